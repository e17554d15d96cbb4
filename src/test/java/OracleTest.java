import java.util.List;
import java.util.Random;

/** Holds the class against the oracle, by texts and numbers of a fixed seed. */
public final class OracleTest {
    private static final int ROUNDS = 3000;
    private static final Random RANDOM = new Random(20261118);
    private static final boolean[][] SEEN = new boolean[4][5];
    private static final String SIGNS = "  \n;;0123456789abdeghijklnoprstuwy\u0000\tA:/`{\u00e9";

    public static void main(String[] args) {
        for (int i = 0; i < ROUNDS; i++) {
            YearsForCoin x = new YearsForCoin();
            Oracle.Land land = new Oracle.Land(tell(x, 0, landText()));
            askLand(x, land);
            askBuyers(x, land);
            askDrawn(x, land);
            YearsForCoin y = new YearsForCoin();
            Oracle.Land lively = new Oracle.Land(tell(y, 0, livelyLandText()));
            askSeason(y, lively, tell(y, 1, seasonText(lively)));
            askDrawn(y, lively);
            YearsForCoin z = new YearsForCoin();
            askLedger(z, tell(z, 2, ledgerText()));
            askBargain(z, new Oracle.Bargain(tell(z, 3, bargainText())));
            for (int sort = 0; sort < 4; sort++) {
                askFault(sort, broken(sort));
            }
        }
        for (int sort = 0; sort < 4; sort++) {
            for (String word : Oracle.grammar(sort).keySet()) {
                askEdges(sort, word, Oracle.grammar(sort).get(word));
            }
            for (int fault = 0; fault < 5; fault++) {
                boolean canBe = fault < 3 || fault == 3 && sort < 3 || fault == 4 && (sort == 0 || sort == 3);
                Check.due("fault " + fault + " of sort " + sort + " came up", SEEN[sort][fault], canBe);
            }
        }
        Check.exit("OracleTest");
    }

    private static int below(int n) {
        return RANDOM.nextInt(n);
    }

    private static boolean chance(int percent) {
        return below(100) < percent;
    }

    private static Oracle.Text tell(YearsForCoin x, int sort, String text) {
        Check.tell(x, sort, text);
        return Oracle.read(sort, text);
    }

    private static String landText() {
        int towns = 1 + below(6);
        StringBuilder text = new StringBuilder("towns " + towns + ";");
        for (int t = 0; t < towns; t++) {
            for (int u = 0; u < t; u++) {
                if (chance(45)) {
                    text.append("road " + t + " " + u + " " + (1 + below(chance(50) ? 3 : 9)) + ";");
                }
            }
            if (chance(15)) {
                text.append("shut " + t + ";");
            }
        }
        for (int b = below(9); b > 0; b--) {
            text.append(buyer(below(towns), below(4), below(chance(50) ? 12 : 100), below(100), below(10)));
        }
        for (int l = below(5); l > 0; l--) {
            text.append("letter " + (1 + below(chance(60) ? 9 : 60)) + " " + below(chance(60) ? 20 : 61) + ";");
        }
        return text.append("bank " + below(6) + ";ruler " + below(6) + ";").toString();
    }

    private static String buyer(int town, int kind, int owed, int means, int fear) {
        String name = new String[] {"poor", "knight", "widow", "doubter"}[kind];
        return name + " " + town + " " + owed + " " + means + " " + fear + ";";
    }

    /** One in which most deeds can be. */
    private static String livelyLandText() {
        int towns = 2 + below(2);
        StringBuilder text = new StringBuilder("towns " + towns + ";road 0 1 " + (1 + below(9)) + ";bank " + below(6) + ";ruler " + below(6) + ";");
        if (towns == 3) {
            text.append("road 1 2 " + (1 + below(3)) + ";");
        }
        for (int b = 1 + below(8); b > 0; b--) {
            text.append(buyer(chance(60) ? 0 : below(towns), chance(50) ? 1 : below(4), below(100), 20 + below(80), below(10)));
        }
        for (int l = 1 + below(4); l > 0; l--) {
            text.append("letter " + (1 + below(60)) + " " + below(12) + ";");
        }
        return text.toString();
    }

    private static String seasonText(Oracle.Land land) {
        Oracle.Walk walk = new Oracle.Walk(land);
        StringBuilder text = new StringBuilder();
        int left = below(41);
        for (int tries = 0; tries < 300 && left > 0; tries++) {
            String line = deed(land);
            String[] parts = line.split(" ");
            int[] n = new int[parts.length - 1];
            for (int i = 0; i < n.length; i++) {
                n[i] = Integer.parseInt(parts[i + 1]);
            }
            // Mostly deeds that can be, so that seasons come far.
            if (walk.act(parts[0], n) || chance(3)) {
                text.append(line).append(';');
                left--;
            }
        }
        return text.toString();
    }

    private static String deed(Oracle.Land land) {
        switch (below(12)) {
            case 0: case 1: return "go " + below(land.towns + 1);
            case 2: return "shut " + below(land.towns);
            case 3: return "open " + below(land.towns);
            case 4: return "doubt";
            case 5: return "jubilee";
            case 6: return "sin " + below(8) + " " + (1 + below(60));
            default: return "sell " + below(8) + " " + below(4);
        }
    }

    private static String ledgerText() {
        StringBuilder text = new StringBuilder();
        int due = 0;
        for (int k = below(21); k > 0; k--) {
            int n = below(10);
            switch (below(5)) {
                case 0: text.append("in " + n + ";"); due += n; break;
                case 1: text.append("out " + n + ";"); due -= n; break;
                case 2:
                    int found = Math.max(0, Math.min(99, due + (chance(50) ? 0 : below(5) - 2)));
                    text.append("count " + found + ";");
                    due = found;
                    break;
                default: text.append("key " + below(6) + ";"); break;
            }
        }
        return text.toString();
    }

    private static String bargainText() {
        int parties = 1 + below(4);
        StringBuilder text = new StringBuilder("parties " + parties + ";");
        int most = 1 + below(12);
        for (int set = 1; set < 1 << parties; set++) {
            if (chance(80)) {
                int base = chance(70) ? Integer.bitCount(set) * most / 2 : 0;
                text.append("worth " + set + " " + Math.min(40, base + below(most)) + ";");
            }
        }
        return text.toString();
    }

    private static String broken(int sort) {
        String whole = sort == 0 ? landText() : sort == 1 ? seasonText(new Oracle.Land(Oracle.read(0, livelyLandText())))
            : sort == 2 ? ledgerText() : bargainText();
        StringBuilder text = new StringBuilder(whole);
        if (chance(30)) {
            text.append(whole);
        }
        for (int changes = below(4); changes > 0 && text.length() > 0; changes--) {
            int at = below(text.length());
            char sign = SIGNS.charAt(below(SIGNS.length()));
            if (chance(25)) {
                text.deleteCharAt(at);
            } else if (chance(50)) {
                text.setCharAt(at, sign);
            } else {
                text.insert(at, sign);
            }
        }
        text.setLength(Math.min(text.length(), chance(10) ? below(600) : 600));
        return text.toString().replace(' ', chance(20) ? '\n' : ' ');
    }

    private static void askFault(int sort, String text) {
        Oracle.Text read = Oracle.read(sort, text);
        SEEN[sort][read.fault] = true;
        YearsForCoin x = new YearsForCoin();
        Check.tape(x, text);
        Check.due("text " + text, x.text(sort, -1), read.fault == 0 ? 0 : -1);
        Check.due("fault of " + text, x.fault(0), read.fault);
        Check.due("place in " + text, x.fault(1), read.place);
    }

    /** Every number of every line: the least and the greatest that may be, and one beyond each. */
    private static void askEdges(int sort, String word, int[][] ranges) {
        for (int k = 0; k < ranges.length; k++) {
            for (int value : new int[] {ranges[k][0] - 1, ranges[k][0], ranges[k][1], ranges[k][1] + 1}) {
                StringBuilder line = new StringBuilder(word);
                for (int i = 0; i < ranges.length; i++) {
                    // A road's two towns are unlike.
                    line.append(' ').append(i == k ? value : word.equals("road") ? i == 0 ? value % 5 + 1 : value == 1 ? 2 : 1 : ranges[i][0]);
                }
                if (value >= 0 && value <= 99) {
                    askFault(sort, line + ";");
                    askFault(sort, line + ";" + (sort == 0 ? "towns 6;" : sort == 3 ? "parties 4;" : ""));
                }
            }
        }
    }

    private static void askLand(YearsForCoin x, Oracle.Land land) {
        for (int from = 0; from < 6; from++) {
            for (int to = 0; to < 6; to++) {
                boolean there = from < land.towns && to < land.towns;
                Check.due("days", x.days(0, from, to), there ? land.days(from, to, land.shut) : -1);
                Check.due("road", x.land(0, 100 + 6 * from + to), there ? land.road[from][to] : -1);
            }
        }
        int d = below(100);
        int reach = 0;
        for (int t = 0; t < land.towns; t++) {
            int days = land.days(0, t, land.shut);
            reach |= days != -1 && days <= d ? 1 << t : 0;
        }
        Check.due("reach", x.reach(0, d), reach);
        int[] centre = land.centre();
        Check.due("centre", x.centre(0, false), centre == null ? -1 : centre[0]);
        Check.due("centre days", x.centre(0, true), centre == null ? -1 : centre[1]);
        List<Integer> round = land.round();
        for (int k = -1; k < 6; k++) {
            Check.due("round " + k, x.round(0, k), round == null || k + 1 >= round.size() ? -1 : round.get(k + 1));
        }
        int letter = below(4);
        int limit = below(chance(60) ? 12 : 41);
        if (letter < land.letters.size()) {
            askTour(x, land, limit, letter);
        } else {
            Check.due("tour", x.tour(0, limit, letter, -1), -1);
        }
        askPoorer(x, land);
    }

    private static void askTour(YearsForCoin x, Oracle.Land land, int d, int letter) {
        List<Integer> tour = land.tour(d, letter, land.shut);
        for (int k = -1; k < 6; k++) {
            Check.due("tour " + k, x.tour(0, d, letter, k), k + 1 < tour.size() ? tour.get(k + 1) : -1);
        }
        Check.due("tour length", x.tour(0, d, letter, -2), tour.size() - 1);
        int town = -1;
        int least = 0;
        for (int t = 1; t < land.towns; t++) {
            int then = land.tour(d, letter, land.shut | 1 << t).get(0);
            if (town == -1 || then < least) {
                town = t;
                least = then;
            }
        }
        Check.due("border", x.border(0, d, letter, false), town);
        Check.due("border coins", x.border(0, d, letter, true), town == -1 ? -1 : tour.get(0) - least);
    }

    private static void askPoorer(YearsForCoin x, Oracle.Land land) {
        int bits = 0;
        for (int l = 0; l < land.letters.size(); l++) {
            for (int[] other : land.letters) {
                int[] one = land.letters.get(l);
                boolean less = other[0] > one[0] && other[1] <= one[1] || other[0] >= one[0] && other[1] < one[1];
                bits |= less ? 1 << l : 0;
            }
        }
        Check.due("poorer", x.poorer(0), bits);
    }

    private static void askBuyers(YearsForCoin x, Oracle.Land land) {
        int years = 1 + below(chance(50) ? 10 : 60);
        int ranked = 0;
        for (int kind = -1; kind < 4; kind++) {
            int[] priced = land.priced(years, kind);
            Check.due("priced", x.priced(0, years, kind, false), priced[0]);
            Check.due("priced coins", x.priced(0, years, kind, true), priced[1]);
            ranked += kind >= 0 ? priced[1] : 0;
        }
        Check.due("ranked", x.ranked(0, years), ranked);
        int price = below(chance(70) ? 30 : 100);
        int sold = 0;
        for (int b = 0; b < land.buyers.size(); b++) {
            boolean takes = land.buyers.get(b).takes(years, price);
            Check.due("takes", x.takes(0, b, years, price), takes ? 1 : 0);
            sold += takes ? 1 : 0;
        }
        Check.due("sold", x.sold(0, years, price), sold);
        if (land.buyers.isEmpty()) {
            return;
        }
        int b = below(land.buyers.size());
        Oracle.Buyer one = land.buyers.get(b);
        int[] hold = land.hold(one.owed, one.means);
        for (int k = -2; k < 4; k++) {
            int due = k == -1 ? hold[0] : k == -2 ? hold[1] : k < land.letters.size() ? hold[k + 2] : -1;
            Check.due("hold " + k, x.hold(0, b, k), due);
        }
        int[] enough = land.hold(one.owed, 99999);
        Check.due("enough", x.enough(0, b), enough[0] == one.owed ? enough[1] : -1);
        for (int l = 0; l < land.letters.size(); l++) {
            Check.due("until", x.until(0, b, l), until(one, land.letters.get(l)));
        }
    }

    private static int until(Oracle.Buyer one, int[] letter) {
        for (int doubts = 0; doubts <= 9; doubts++) {
            Oracle.Buyer then = one.copy();
            then.fear = Math.max(0, then.fear - doubts);
            if (!then.takes(letter[0], letter[1])) {
                return doubts;
            }
        }
        return -1;
    }

    private static void askDrawn(YearsForCoin x, Oracle.Land land) {
        int seed = chance(50) ? RANDOM.nextInt() : below(100) - 50;
        int n = below(61);
        Oracle.Walk walk = new Oracle.Walk(land);
        walk.drawAll(seed, n);
        for (int what = -1; what <= 50; what++) {
            Check.due("drawn " + what, x.drawn(0, seed, n, what), walk.show(what));
        }
    }

    private static void askSeason(YearsForCoin x, Oracle.Land land, Oracle.Text text) {
        List<Oracle.Walk> states = Oracle.season(land, text);
        int stop = states.size() - 1;
        Check.due("stop", x.stop(0, 0), stop);
        for (int n : new int[] {below(stop + 1), stop, stop + 1}) {
            for (int what = -1; what <= 50; what++) {
                Check.due("state " + n + " " + what, x.state(0, 0, n, what), n > stop ? -1000 : states.get(n).show(what));
            }
        }
        Oracle.Walk last = states.get(stop);
        int payer = -1;
        int ahead = 0;
        for (int b = 0; b < last.buyers.size(); b++) {
            Oracle.Buyer one = last.buyers.get(b);
            payer = one.paid > 0 && (payer == -1 || one.paid > last.buyers.get(payer).paid) ? b : payer;
            ahead |= one.owed < 0 ? 1 << b : 0;
        }
        int half = 0;
        while (states.get(half).church * 2 < last.church) {
            half++;
        }
        Check.due("payer", x.after(0, 0, 0), payer);
        Check.due("half", x.after(0, 0, 1), half);
        Check.due("ahead", x.after(0, 0, 2), ahead);
    }

    private static void askLedger(YearsForCoin x, Oracle.Text text) {
        int[] gaps = Oracle.gaps(text);
        int times = 0;
        int lost = 0;
        for (int k = 0; k < gaps.length; k++) {
            boolean count = text.words.get(k).equals("count");
            Check.due("missing", x.entry(0, k, 2), count ? Math.max(0, gaps[k]) : -1);
            Check.due("over", x.entry(0, k, 3), count ? Math.max(0, -gaps[k]) : -1);
            times += gaps[k] > 0 ? 1 : 0;
            lost += Math.max(0, gaps[k]);
        }
        Check.due("opened", x.opened(0, false), times);
        Check.due("lost", x.opened(0, true), lost);
        List<Integer> sets = Oracle.fitting(text);
        int sure = sets.isEmpty() ? -1 : 63;
        int any = 0;
        for (int k = 0; k < sets.size(); k++) {
            sure &= sets.get(k);
            any |= sets.get(k);
            Check.due("thieves " + k, x.thieves(0, 10 + k), sets.get(k));
        }
        Check.due("thieves", x.thieves(0, 0), sets.size());
        Check.due("no more thieves", x.thieves(0, 10 + sets.size()), -2);
        Check.due("sure", x.thieves(0, 1), sure);
        Check.due("clear", x.thieves(0, 2), sets.isEmpty() ? -1 : 63 & ~any);
    }

    private static void askBargain(YearsForCoin x, Oracle.Bargain bargain) {
        List<Integer> rows = bargain.rows();
        int[] gains = bargain.gains();
        int[] even = bargain.even();
        int veto = 0;
        int idle = 0;
        Check.due("rows", x.rows(0, -1), rows.get(0));
        for (int p = 0; p < bargain.parties; p++) {
            Check.due("row", x.rows(0, p), rows.get(0) == 0 ? -1 : rows.get(p + 1));
            long over = x.fair(0, p, false);
            long under = x.fair(0, p, true);
            Check.due("fair", over * bargain.orders(), gains[p] * under);
            Check.due("least terms", under > 0 && java.math.BigInteger.valueOf(over).gcd(java.math.BigInteger.valueOf(under)).intValue() == 1, true);
            Check.due("even", x.even(0, p), even[p]);
            boolean needed = true;
            boolean useless = true;
            int swings = 0;
            for (int set = 0; set < 1 << bargain.parties; set++) {
                if ((set >> p & 1) == 0) {
                    needed &= bargain.worth[set] == 0;
                } else {
                    useless &= bargain.worth[set] == bargain.worth[set - (1 << p)];
                    swings += bargain.worth[set] > bargain.worth[set - (1 << p)] ? 1 : 0;
                }
            }
            veto |= needed ? 1 << p : 0;
            idle |= useless ? 1 << p : 0;
            Check.due("swings", x.power(0, 10 + p), swings);
        }
        Check.due("veto", x.power(0, 0), veto);
        Check.due("idle", x.power(0, 1), idle);
    }
}
