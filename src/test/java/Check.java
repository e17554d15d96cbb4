import java.nio.charset.StandardCharsets;

/** What the tests share: putting texts on the tape, comparing answers, ending with an exit code. */
final class Check {
    private static int wrong = 0;
    private static int asked = 0;
    private static String sentence = "";

    private Check() {
    }

    static void due(String call, long got, long want) {
        asked++;
        if (got != want) {
            wrong++;
            if (wrong <= 50) {
                System.out.println(call + " answered " + got + ", due is " + want + sentence);
            }
        }
    }

    /** The document's sentence that the next answers are held against: it is told with what is wrong. */
    static void sentence(String words) {
        sentence = " [" + words + "]";
    }

    static void due(String call, boolean got, boolean want) {
        due(call, got ? 1 : 0, want ? 1 : 0);
    }

    /** Puts bytes on the tape, whatever was on it before. */
    static void tape(YearsForCoin x, byte[] bytes) {
        x.end(0);
        for (int at = 0; at < bytes.length; at += 20) {
            int[] five = new int[5];
            for (int i = 0; i < 20; i++) {
                int one = at + i < bytes.length ? bytes[at + i] & 255 : 0;
                five[i / 4] = five[i / 4] << 8 | one;
            }
            due("feed", x.feed(five[0], five[1], five[2], five[3], five[4]), at + 20);
        }
        due("end", x.end(bytes.length), bytes.length);
    }

    static void tape(YearsForCoin x, String text) {
        tape(x, text.getBytes(StandardCharsets.ISO_8859_1));
    }

    /** Tells a text as a further one that must be without fault. */
    static int tell(YearsForCoin x, int sort, String text) {
        tape(x, text);
        int number = x.text(sort, -1);
        due("fault of '" + text + "'", x.fault(0), 0);
        return number;
    }

    static YearsForCoin told(int sort, String text) {
        YearsForCoin x = new YearsForCoin();
        due("number of '" + text + "'", tell(x, sort, text), 0);
        return x;
    }

    static void faulty(int sort, String text, int fault, int place) {
        faulty(sort, text.getBytes(StandardCharsets.ISO_8859_1), fault, place);
    }

    static void faulty(int sort, byte[] bytes, int fault, int place) {
        String text = new String(bytes, StandardCharsets.ISO_8859_1);
        YearsForCoin x = new YearsForCoin();
        tape(x, bytes);
        due("text '" + text + "'", x.text(sort, -1), fault == 0 ? 0 : -1);
        due("fault of '" + text + "'", x.fault(0), fault);
        due("place in '" + text + "'", x.fault(1), place);
        due("count behind '" + text + "'", x.count(sort), fault == 0 ? 1 : 0);
    }

    static void good(int sort, String text) {
        faulty(sort, text, 0, -1);
    }

    static void exit(String name) {
        System.out.println(name + ": " + asked + " answers, " + wrong + " wrong");
        if (wrong != 0) {
            System.exit(1);
        }
    }
}
