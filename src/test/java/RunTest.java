import java.io.IOException;

/** What .ci/run answers, in small projects of its own: it passes only if all tests are there and all pass. */
public final class RunTest {
    private static final String CLASS = "src/main/java/YearsForCoin.java";
    private static final String SHARED = "../shared/tests/";

    public static void main(String[] args) throws IOException, InterruptedException {
        allPass();
        ownFails();
        sharedFails();
        sharedDoesNotCompile();
        classDoesNotCompile();
        ownDoesNotCompile();
        noSharedTests();
        sharedElsewhere();
        Check.exit("RunTest");
    }

    private static String test(String name, int exitCode) {
        return "public final class " + name + " { public static void main(String[] args) { new YearsForCoin(); System.exit("
            + exitCode + "); } }\n";
    }

    /** Two tests of the project, two shared ones, all of which pass. */
    private static Place project() throws IOException {
        Place place = new Place();
        place.copy(".ci/run");
        place.write(CLASS, "public final class YearsForCoin { }\n");
        place.write("src/test/java/OneTest.java", test("OneTest", 0));
        place.write("src/test/java/TwoTest.java", test("TwoTest", 0));
        place.write("src/test/java/Helper.java", "final class Helper { }\n");
        place.write(SHARED + "Runs.java", test("Runs", 0));
        place.write(SHARED + "Fault.java", test("Fault", 0));
        return place;
    }

    private static void due(Place place, int code, boolean passes, String line) {
        Check.due(".ci/run ends with 0 at '" + line + "': " + place.complaints, code == 0, passes);
        Check.due("'" + line + "' is a line of '" + place.printed + "'", ("\n" + place.printed).contains("\n" + line + "\n"), true);
    }

    private static void allPass() throws IOException, InterruptedException {
        try (Place place = project()) {
            int code = place.run("bash .ci/run");
            for (String name : new String[] {"OneTest", "TwoTest", "shared Runs", "shared Fault"}) {
                due(place, code, true, "ok   " + name);
            }
            due(place, code, true, "4 passed, 0 failed");
            code = place.run("here=\"$PWD\"; cd /; bash \"$here/.ci/run\"");
            due(place, code, true, "4 passed, 0 failed");
        }
    }

    private static void ownFails() throws IOException, InterruptedException {
        try (Place place = project()) {
            place.write("src/test/java/OneTest.java", test("OneTest", 1));
            int code = place.run("bash .ci/run");
            due(place, code, false, "FAIL OneTest");
            due(place, code, false, "3 passed, 1 failed");
        }
    }

    private static void sharedFails() throws IOException, InterruptedException {
        try (Place place = project()) {
            place.write(SHARED + "Fault.java", test("Fault", 1));
            int code = place.run("bash .ci/run");
            due(place, code, false, "FAIL shared Fault");
            due(place, code, false, "3 passed, 1 failed");
        }
    }

    private static void sharedDoesNotCompile() throws IOException, InterruptedException {
        try (Place place = project()) {
            place.write(SHARED + "Runs.java", test("Runs", 0).replace("new YearsForCoin()", "new YearsForCoin(1)"));
            int code = place.run("bash .ci/run");
            due(place, code, false, "FAIL shared Runs");
            due(place, code, false, "3 passed, 1 failed");
        }
    }

    private static void classDoesNotCompile() throws IOException, InterruptedException {
        try (Place place = project()) {
            place.write(CLASS, "public final class YearsForCoin { int }\n");
            due(place, place.run("bash .ci/run"), false, "0 passed, 1 failed");
        }
    }

    private static void ownDoesNotCompile() throws IOException, InterruptedException {
        try (Place place = project()) {
            place.write("src/test/java/Helper.java", "final class Helper { int }\n");
            due(place, place.run("bash .ci/run"), false, "0 passed, 1 failed");
        }
    }

    private static void noSharedTests() throws IOException, InterruptedException {
        try (Place place = project()) {
            int code = place.run("rm ../shared/tests/*.java; bash .ci/run");
            due(place, code, false, "FAIL no tests under ../shared/tests");
            due(place, code, false, "2 passed, 1 failed");
        }
    }

    private static void sharedElsewhere() throws IOException, InterruptedException {
        try (Place place = project()) {
            place.write("../other/tests/Elsewhere.java", test("Elsewhere", 0));
            int code = place.run("SHARED=\"$PWD/../other\" bash .ci/run");
            due(place, code, true, "ok   shared Elsewhere");
            due(place, code, true, "3 passed, 0 failed");
        }
    }
}
