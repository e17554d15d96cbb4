import java.io.IOException;
import java.lang.reflect.Method;
import java.lang.reflect.Modifier;
import java.nio.file.Files;
import java.nio.file.Path;
import java.util.ArrayList;
import java.util.Collections;
import java.util.List;
import java.util.regex.Matcher;
import java.util.regex.Pattern;

/** What README.md says of using the class and of running its tests is so: its commands are run as they stand there. */
public final class ReadmeTest {
    public static void main(String[] args) throws IOException, InterruptedException {
        String readme = Files.readString(Path.of("README.md"));
        List<String> commands = blocks(readme, "sh");
        Check.due("programs in README.md", blocks(readme, "java").size(), 1);
        Check.due("answers in README.md", blocks(readme, "text").size(), 1);
        Check.due("commands in README.md", commands.size(), 3);
        try (Place place = new Place()) {
            place.copy("src");
            place.write("Example.java", blocks(readme, "java").get(0));
            example(place, commands.get(0), blocks(readme, "text").get(0));
            allTests(commands.get(1));
            oneTest(place, commands.get(2));
            wrongAnswers(place, commands.get(2));
        }
        everyMethodOnce(readme);
        namesOfFiles(readme);
        Check.exit("ReadmeTest");
    }

    private static List<String> blocks(String readme, String language) {
        List<String> found = new ArrayList<>();
        Matcher one = Pattern.compile("(?ms)^```" + language + "\n(.*?)^```$").matcher(readme);
        while (one.find()) {
            found.add(one.group(1));
        }
        return found;
    }

    private static void example(Place place, String commands, String answers) throws IOException, InterruptedException {
        int code = place.run(commands);
        Check.due("the example's exit code: " + place.complaints, code, 0);
        String[] got = place.printed.split("\n", -1);
        String[] due = answers.split("\n", -1);
        Check.due("lines that the example prints", got.length, due.length);
        for (int i = 0; i < Math.min(got.length, due.length); i++) {
            Check.due("the example prints '" + got[i] + "', by README.md '" + due[i] + "'", got[i].equals(due[i]), true);
        }
    }

    private static void allTests(String command) {
        Check.due("all tests are run by " + command, command.equals(".ci/run\n"), true);
        Check.due(".ci/run can be run", Files.isExecutable(Path.of(".ci/run")), true);
    }

    private static void oneTest(Place place, String commands) throws IOException, InterruptedException {
        int code = place.run(commands);
        Check.due("one test's exit code: " + place.complaints, code, 0);
        Check.due("one test says: " + place.printed, place.printed.matches("MonthsTest: \\d+ answers, 0 wrong\n"), true);
    }

    /** With a class that is broken in one place. */
    private static void wrongAnswers(Place place, String commands) throws IOException, InterruptedException {
        String source = Files.readString(Path.of("src/main/java/YearsForCoin.java"));
        String broken = source.replace("told.length + 20 > MOST_BYTES", "told.length + 20 >= MOST_BYTES");
        Check.due("the class could be broken", !broken.equals(source), true);
        place.write("src/main/java/YearsForCoin.java", broken);
        Check.due("exit code behind wrong answers", place.run(commands.replace("MonthsTest", "TapeBoundsTest")), 1);
        String line = "(?m)^.* answered -1, due is 600 \\[.*more than 600.*\\]$";
        Check.due("a wrong answer, the one due, the words", Pattern.compile(line).matcher(place.printed).find(), true);
        Matcher end = Pattern.compile("(?m)^TapeBoundsTest: \\d+ answers, (\\d+) wrong$").matcher(place.printed);
        int wrong = end.find() ? Integer.parseInt(end.group(1)) : 0;
        Check.due("wrong answers printed, of " + wrong, place.printed.split(" answered ", -1).length - 1, Math.min(50, wrong));
    }

    private static void everyMethodOnce(String readme) {
        List<String> told = new ArrayList<>();
        for (String line : readme.split("\n")) {
            Matcher name = Pattern.compile("`(\\w+)`").matcher(line.startsWith("| ") ? line : "");
            while (name.find()) {
                told.add(name.group(1));
            }
        }
        List<String> there = new ArrayList<>();
        for (Method one : YearsForCoin.class.getDeclaredMethods()) {
            if (Modifier.isPublic(one.getModifiers())) {
                there.add(one.getName());
            }
        }
        Collections.sort(told);
        Collections.sort(there);
        Check.due("methods in README.md: " + told, told.equals(there), true);
    }

    /** Of the project alone: a checkout need not see the documents that it is built by. */
    private static void namesOfFiles(String readme) {
        Matcher name = Pattern.compile("`((?:src|\\.ci)/[\\w/.]+)`").matcher(readme);
        int found = 0;
        while (name.find()) {
            found++;
            Check.due(name.group(1) + " is there", Files.exists(Path.of(name.group(1))), true);
        }
        Check.due("names of files are found", found >= 2, true);
    }
}
