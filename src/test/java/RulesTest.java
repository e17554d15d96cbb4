import java.io.IOException;
import java.lang.reflect.Constructor;
import java.lang.reflect.Field;
import java.lang.reflect.Method;
import java.lang.reflect.Modifier;
import java.nio.file.Files;
import java.nio.file.Path;
import java.util.HashSet;
import java.util.Set;
import java.util.TreeSet;
import java.util.regex.Matcher;
import java.util.regex.Pattern;

/** The class's face, and those rules of LANGUAGE.md that can be read off the source. */
public final class RulesTest {
    private static final String FACE = "int feed(int,int,int,int,int);int end(int);int text(int,int);int fault(int);int land(int,int);"
        + "int deed(int,int,int);int stop(int,int);int state(int,int,int,int);int takes(int,int,int,int);"
        + "int priced(int,int,int,boolean);int days(int,int,int);int tour(int,int,int,int);int hold(int,int,int);"
        + "int plan(int,int,int);int entry(int,int,int);int thieves(int,int);int bargain(int,int);int rows(int,int);"
        + "long fair(int,int,boolean);int drawn(int,int,int,int);int border(int,int,int,boolean);int ranked(int,int);"
        + "int sold(int,int,int);int round(int,int);int reach(int,int);int centre(int,boolean);int until(int,int,int);"
        + "int enough(int,int);int loan(int,int,int,boolean);int power(int,int);int after(int,int,int);"
        + "int opened(int,boolean);int poorer(int);int within(int,int);int even(int,int);int count(int);"
        + "boolean image(int);boolean again(int)";

    public static void main(String[] args) throws IOException {
        face();
        classesInside();
        String source = Files.readString(Path.of("src/main/java/YearsForCoin.java"));
        String bare = source.replaceAll("(?s)/\\*.*?\\*/", "").replaceAll("//[^\n]*", "")
            .replaceAll("\"[^\"\n]*\"", "\"\"").replaceAll("'[^'\n]*'", "' '");
        forbidden(bare);
        library(bare);
        methods(bare);
        Check.exit("RulesTest");
    }

    private static void none(String what, boolean found) {
        Check.due(what, found, false);
    }

    private static void face() {
        Class<?> type = YearsForCoin.class;
        Check.due("public final", Modifier.isPublic(type.getModifiers()) && Modifier.isFinal(type.getModifiers()), true);
        Set<String> due = new TreeSet<>(Set.of(FACE.split(";")));
        Set<String> names = new HashSet<>();
        for (String one : due) {
            names.add(one.substring(one.indexOf(' ') + 1, one.indexOf('(')));
        }
        Set<String> there = new TreeSet<>();
        for (Method one : type.getDeclaredMethods()) {
            if (Modifier.isPrivate(one.getModifiers())) {
                none("private with a public name: " + one, names.contains(one.getName()));
            } else {
                StringBuilder sign = new StringBuilder(one.getReturnType() + " " + one.getName() + "(");
                for (Class<?> parameter : one.getParameterTypes()) {
                    sign.append(sign.charAt(sign.length() - 1) == '(' ? "" : ",").append(parameter);
                }
                there.add(sign + ")");
            }
        }
        Check.due("methods: " + there, there.equals(due), true);
        for (Field one : type.getDeclaredFields()) {
            boolean open = !Modifier.isPrivate(one.getModifiers());
            Check.due("field " + one, open, one.getName().equals("NONE"));
        }
        Constructor<?>[] makers = type.getDeclaredConstructors();
        Check.due("constructors", makers.length, 1);
        Check.due("constructor", Modifier.isPublic(makers[0].getModifiers()) && makers[0].getParameterCount() == 0, true);
        Check.due("NONE", YearsForCoin.NONE, -1);
    }

    private static void classesInside() {
        Class<?>[] inside = YearsForCoin.class.getDeclaredClasses();
        Check.due("some twelve classes", inside.length <= 12, true);
        for (Class<?> one : inside) {
            Check.due("static: " + one, Modifier.isStatic(one.getModifiers()), true);
            none("public: " + one, Modifier.isPublic(one.getModifiers()));
            for (Method inner : one.getDeclaredMethods()) {
                boolean hidden = Modifier.isPrivate(inner.getModifiers());
                none("private with a public name: " + inner, hidden && (";" + FACE).matches(".*[; ]" + inner.getName() + "\\(.*"));
            }
            int fields = 0;
            for (Field field : one.getDeclaredFields()) {
                if (Modifier.isStatic(field.getModifiers())) {
                    Check.due("final: " + field, Modifier.isFinal(field.getModifiers()), true);
                } else {
                    fields++;
                }
            }
            Check.due("some twenty fields: " + one, fields <= 20, true);
        }
    }

    private static void forbidden(String bare) {
        for (String word : new String[] {"throw", "throws", "try", "catch", "synchronized", "assert", "package", "protected",
            "volatile", "native", "hashCode", "toString", "Object", "Random", "Thread", "instanceof", "null\\.", "var"}) {
            none(word, Pattern.compile("\\b" + word + "\\b").matcher(bare).find());
        }
        none("a lambda", bare.contains("->"));
        none("a method reference", bare.contains("::"));
        none("a static block", Pattern.compile("static\\s*\\{").matcher(bare).find());
        none("an anonymous class", Pattern.compile("new \\w+\\([^)]*\\)\\s*\\{").matcher(bare).find());
        none("Exact", Pattern.compile("\\w+Exact\\b").matcher(bare).find());
        none("texts joined by +", Pattern.compile("\"\"\\s*\\+|\\+\\s*\"\"").matcher(bare).find());
        Matcher statics = Pattern.compile("\\bstatic (?!final)(?!class)(\\w+(\\[\\])?) \\w+\\s*[=;]").matcher(bare);
        none("a static field that is not final", statics.find());
    }

    private static void library(String bare) {
        Matcher imports = Pattern.compile("import ([\\w.*]+);").matcher(bare);
        while (imports.find()) {
            Check.due("import " + imports.group(1), imports.group(1).equals("java.util.Arrays"), true);
        }
        Matcher calls = Pattern.compile("\\b(System|Arrays|Math|Integer|Long|String)\\.(\\w+)").matcher(bare);
        Set<String> may = Set.of("System.arraycopy", "Arrays.fill", "Math.max", "Math.min", "Math.abs", "Math.floorDiv",
            "Math.floorMod", "Integer.bitCount");
        while (calls.find()) {
            Check.due("library: " + calls.group(), may.contains(calls.group()), true);
        }
    }

    private static void methods(String bare) {
        String[] lines = bare.split("\n");
        Pattern head = Pattern.compile("^( {4}| {8})(public |private |static |final )*[\\w\\[\\]]+ ?\\w*\\(([^)]*)\\) \\{$");
        int found = 0;
        for (int i = 0; i < lines.length; i++) {
            Matcher one = head.matcher(lines[i]);
            if (one.find() && !lines[i].contains(" switch ")) {
                found++;
                int end = i;
                while (end < lines.length && !lines[end].equals(one.group(1) + "}")) {
                    end++;
                }
                Check.due("sixty lines: " + lines[i].trim(), end - i <= 60, true);
                Check.due("seven parameters: " + lines[i].trim(), one.group(3).split(",").length <= 7, true);
            }
        }
        Check.due("methods are found", found > 100, true);
    }
}
