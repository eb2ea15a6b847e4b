import java.io.IOException;
import java.lang.reflect.InvocationTargetException;
import java.lang.reflect.Method;
import java.nio.charset.StandardCharsets;
import java.nio.file.Files;
import java.nio.file.Path;
import java.util.ArrayList;
import java.util.Arrays;
import java.util.List;
import java.util.Map;
import java.util.TreeMap;
import java.util.stream.IntStream;

/**
 * A test for each sentence of the document: term() and promise() name the one that the following runs ask for, and
 * each run is a line of calls on a new object, "setClass(0, 3, 1, 1); define(0, 5, false, 3, 0) -> argument". Behind
 * the arrow stands the answer that is due: a number, true, false, NONE, INT, or index, argument or state for the
 * exception; a call without an arrow only must not throw. Behind each call that throws, the object is compared with a
 * twin that never had the call. Several runs stand in one line as "members({0 1}) -> 8".
 */
final class Edge {
    /** The document leaves free what an object answers behind its 512th call; the twins have some calls more. */
    private static final int CALL_LIMIT = 512 - 80;
    private static final Path DOCUMENT = Path.of("../shared/DOC.md");
    private static final Map<String, Method> FACE = new TreeMap<>();

    static {
        for (Method m : CompatibilityJudge.class.getMethods()) {
            FACE.put(m.getName(), m);
        }
    }

    private final String test;
    private final String document = readDocument();
    private String sentence = "";
    private int sentences = 0;
    private int runs = 0;
    private int runsOfSentence = 0;
    private int wrong = 0;

    Edge(String itsTest) {
        test = itsTest;
    }

    private static String readDocument() {
        try {
            return Files.exists(DOCUMENT) ? plain(Files.readString(DOCUMENT, StandardCharsets.UTF_8)) : "";
        } catch (IOException e) {
            return "";
        }
    }

    private static String plain(String text) {
        return text.replace("`", "").replaceAll("\\s+", " ");
    }

    /** A sentence of "Terms". */
    void term(String words) {
        sentence("Terms", "## Terms", words);
    }

    void promise(int number, String words) {
        sentence("Promise " + number, "## Promise " + number + ":", words);
    }

    private void sentence(String place, String heading, String words) {
        endSentence();
        sentence = place + ": " + words;
        sentences++;
        runsOfSentence = 0;
        // Only told, because it is no fault of the program if the document says it in other words now.
        if (!document.isEmpty() && !section(heading).contains(plain(words))) {
            System.out.println(test + ": the document has no such sentence: " + sentence);
        }
        if (Boolean.getBoolean("show")) {
            System.out.println(sentence);
        }
    }

    private String section(String heading) {
        int from = document.indexOf(heading);
        if (from < 0) {
            return "";
        }
        int to = document.indexOf("## ", from + heading.length());
        return document.substring(from, to < 0 ? document.length() : to);
    }

    private void endSentence() {
        if (sentences > 0 && runsOfSentence == 0) {
            fail("the sentence has no run");
        }
    }

    private void fail(String words) {
        wrong++;
        System.out.println(test + ": " + sentence + "\n    " + words);
    }

    /** The same calls so many times, as the beginning of a run. */
    static String repeat(int times, String calls) {
        return (calls + "; ").repeat(times);
    }

    void runs(String lines) {
        runs("", lines);
    }

    /** The lines are runs that all begin with the same calls; a line that begins with // says why. */
    void runs(String before, String lines) {
        for (String line : lines.split("\n")) {
            if (!line.isBlank() && !line.trim().startsWith("//")) {
                expand(before + ";" + line);
            }
        }
    }

    /**
     * A run for each value of a choice in braces. Choices that are written alike have the same value in a run, so that
     * {0 1} and {0 1 }, with a space more, are two choices.
     */
    private void expand(String calls) {
        int open = calls.indexOf('{');
        int close = calls.indexOf('}');
        if (open < 0 || close < open) {
            run(calls);
            return;
        }
        String choice = calls.substring(open, close + 1);
        for (String value : values(choice.substring(1, choice.length() - 1).trim())) {
            expand(calls.replace(choice, value));
        }
    }

    /** "outside 0 9" is what does not belong to a range, "0..9" what does; otherwise the values are written out. */
    private static String[] values(String choice) {
        String[] words = choice.split(" ");
        if (words[0].equals("outside")) {
            return texts(Arrays.stream(outside(Integer.parseInt(words[1]), Integer.parseInt(words[2]))));
        }
        int dots = choice.indexOf("..");
        if (dots > 0) {
            return texts(IntStream.rangeClosed(Integer.parseInt(choice.substring(0, dots)),
                    Integer.parseInt(choice.substring(dots + 2))));
        }
        return words;
    }

    private static String[] texts(IntStream numbers) {
        return numbers.mapToObj(String::valueOf).toArray(String[]::new);
    }

    /** Whole numbers outside a range: its neighbours, the extremes, and what a shift or a mask would take for it. */
    static int[] outside(int low, int high) {
        int[] some = {low - 1, high + 1, low - 32, low + 32, high + 32, high + 64, high + 256, high + 65536,
            Integer.MIN_VALUE + low, Integer.MIN_VALUE + high, Integer.MIN_VALUE, Integer.MAX_VALUE};
        return Arrays.stream(some).filter(v -> v < low || v > high).distinct().toArray();
    }

    /** A run on a new object. */
    void run(String text) {
        runs++;
        runsOfSentence++;
        List<String> calls = new ArrayList<>();
        for (String part : text.split(";")) {
            if (!part.isBlank()) {
                calls.add(part.trim());
            }
        }
        if (calls.size() > CALL_LIMIT) {
            fail("a run of " + calls.size() + " calls");
        }
        List<String> done = new ArrayList<>();
        CompatibilityJudge x = new CompatibilityJudge();
        for (int k = 0; k < calls.size(); k++) {
            String[] halves = calls.get(k).split("->");
            String call = halves[0].trim();
            String got = answer(x, call);
            boolean isRefused = got.endsWith("Exception");
            String due = halves.length > 1 ? due(halves[1].trim()) : isRefused ? "no exception" : got;
            if (!got.equals(due)) {
                fail(String.join("; ", calls.subList(0, k)) + "; " + call + " answered " + got + ", due is " + due);
                return;
            }
            if (isRefused) {
                compareTwins(done, call);
            } else {
                done.add(call);
            }
        }
    }

    /** "A call that throws an exception changes nothing.": also not the draft's types and not what is saved. */
    private void compareTwins(List<String> done, String refused) {
        List<String> more = new ArrayList<>(done);
        more.add(refused);
        String untouched = saved(replay(done)) + drafted(replay(done));
        String touched = saved(replay(more)) + drafted(replay(more));
        if (!untouched.equals(touched)) {
            fail(String.join("; ", more) + " changed something: " + touched + " in place of " + untouched);
        }
    }

    private static CompatibilityJudge replay(List<String> calls) {
        CompatibilityJudge x = new CompatibilityJudge();
        for (String call : calls) {
            answer(x, call);
        }
        return x;
    }

    private static String saved(CompatibilityJudge x) {
        StringBuilder s = new StringBuilder("checksums");
        String left = "some";
        for (int k = 0; k < 7 && !left.endsWith("Exception"); k++) {
            s.append(' ').append(answer(x, "checksum()"));
            left = answer(x, "undo()");
        }
        return s.toString();
    }

    /** The parameter types of the draft are not in the checksum; a method that is added shows them. */
    private static String drafted(CompatibilityJudge x) {
        if (x.members(0) == 40) {
            x.removeMember(0, 39);
        }
        for (int c = 1; c <= 9; c++) {
            for (int name = 0; name <= 7; name++) {
                String m = answer(x, "addMethod(0, " + c + ", " + name + ", 3, 0)");
                if (!m.endsWith("Exception")) {
                    StringBuilder s = new StringBuilder(" draft");
                    for (int what = 6; what <= 9; what++) {
                        s.append(' ').append(answer(x, "memberInfo(0, " + m + ", " + what + ")"));
                    }
                    return s.toString();
                }
            }
        }
        return " draft unseen";
    }

    private static String due(String word) {
        return switch (word) {
            case "index" -> "IndexOutOfBoundsException";
            case "argument" -> "IllegalArgumentException";
            case "state" -> "IllegalStateException";
            default -> number(word);
        };
    }

    private static String number(String word) {
        return switch (word) {
            case "NONE" -> "-2";
            case "INT" -> "-1";
            default -> word;
        };
    }

    static String answer(CompatibilityJudge x, String call) {
        int open = call.indexOf('(');
        int close = call.indexOf(')');
        if (open < 0 || close != call.length() - 1) {
            throw new Error("no call: " + call);
        }
        Method method = FACE.get(call.substring(0, open));
        String inner = call.substring(open + 1, close).trim();
        String[] words = inner.isEmpty() ? new String[0] : inner.split(",");
        if (method == null || method.getParameterCount() != words.length) {
            throw new Error("no such call: " + call);
        }
        Object[] arguments = new Object[words.length];
        for (int k = 0; k < words.length; k++) {
            String word = number(words[k].trim());
            boolean isTruth = method.getParameterTypes()[k] == boolean.class;
            arguments[k] = isTruth ? (Object) Boolean.valueOf(word) : (Object) Integer.valueOf(word);
        }
        try {
            return String.valueOf(method.invoke(x, arguments));
        } catch (InvocationTargetException e) {
            return e.getCause().getClass().getSimpleName();
        } catch (IllegalAccessException e) {
            throw new Error(e);
        }
    }

    void end() {
        endSentence();
        System.out.println(test + ": " + sentences + " sentences, " + runs + " runs, " + wrong + " wrong");
        if (wrong != 0) {
            System.exit(1);
        }
    }
}
