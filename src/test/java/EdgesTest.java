import java.io.IOException;
import java.lang.reflect.Method;
import java.nio.charset.StandardCharsets;
import java.nio.file.Files;
import java.nio.file.Path;
import java.util.ArrayList;
import java.util.Arrays;
import java.util.HashMap;
import java.util.List;
import java.util.Map;
import java.util.Set;
import java.util.regex.Matcher;
import java.util.regex.Pattern;
import java.util.stream.Collectors;
import java.util.stream.Stream;

/**
 * The document's sentences, each with runs of calls that would go wrong if it were broken: the files
 * of src/test/edges, whose form README.md tells.
 *
 * Each run is made a second time without the calls that were refused and those that only ask: all that
 * can be seen must be the same then, for these change nothing.
 */
public final class EdgesTest {
    private static final Path EDGES = Path.of("src/test/edges");
    private static final Path DOCUMENT = Path.of("../shared/DOC.md");
    private static final Map<String, Integer> NAMES = Map.of("BAD", -1, "STATE", -2, "FULL", -3, "NONE", -9, "NO", -1000000,
        "MIN", Integer.MIN_VALUE, "MAX", Integer.MAX_VALUE);
    private static final Set<String> CHANGING = Set.of("type", "clear", "way", "gives", "leaves", "goes", "undo", "book", "burn",
        "mark", "keep", "back");
    private static final Pattern HEADING = Pattern.compile(
        "## Terms|## Promise \\d+: (A new object|\\w+)|======== \\d|Ahead of the calls [^:]*: ---- [a-z, ]+\\.");
    private static final int MOST_CALLS = 512;
    /** That look() makes, beside what it is told to do. */
    private static final int LOOKED_AT = 110;
    private static final Map<String, Method> METHODS = new HashMap<>();

    private static int wrong = 0;
    private static int sentences = 0;
    private static int runs = 0;
    private static int checks = 0;

    public static void main(String[] args) throws IOException {
        for (Method m : TentBearers.class.getDeclaredMethods()) {
            METHODS.put(m.getName(), m);
        }
        boolean hasDocument = Files.exists(DOCUMENT);
        String document = hasDocument ? plain(Files.readString(DOCUMENT, StandardCharsets.UTF_8)) : "";
        boolean[] quoted = new boolean[document.length()];
        List<Path> files;
        try (Stream<Path> all = Files.list(EDGES)) {
            files = all.filter(p -> p.toString().endsWith(".txt")).sorted().collect(Collectors.toList());
        }
        for (Path file : files) {
            new Sheet(file, document, quoted).read();
        }
        if (hasDocument) {
            findUnquoted(document, quoted);
        } else {
            System.out.println("without " + DOCUMENT + " no quotation is compared");
        }
        System.out.println(sentences + " sentences, " + runs + " runs, " + checks + " answers, " + wrong + " not as due");
        if (wrong != 0 || files.isEmpty()) {
            System.exit(1);
        }
    }

    private static void fail(String what) {
        wrong++;
        System.out.println(what);
    }

    private static String plain(String text) {
        return text.replace("```text", " ").replace("```", " ").replaceAll("\\s+", " ").trim();
    }

    /** From the Terms to the last promise, each word that is no heading stands in some sentence that is tested. */
    private static void findUnquoted(String document, boolean[] quoted) {
        int from = document.indexOf("## Terms");
        int to = document.indexOf("## Not promised");
        if (from < 0 || to < from) {
            fail("the document has no Terms");
            return;
        }
        Matcher heading = HEADING.matcher(document);
        while (heading.find()) {
            Arrays.fill(quoted, heading.start(), heading.end(), true);
        }
        StringBuilder open = new StringBuilder();
        for (int i = from; i <= to; i++) {
            if (i < to && !quoted[i]) {
                open.append(document.charAt(i));
            } else if (open.length() > 0) {
                if (open.chars().anyMatch(Character::isLetterOrDigit)) {
                    fail("no edge quotes: " + open.toString().trim());
                }
                open.setLength(0);
            }
        }
    }

    /** One file. */
    private static final class Sheet {
        final Path file;
        final String document;
        final boolean[] quoted;
        final StringBuilder quote = new StringBuilder();
        boolean isQuoting = false;
        int checksAtQuote = 0;
        int line = 0;
        Run run = null;

        Sheet(Path file, String document, boolean[] quoted) {
            this.file = file;
            this.document = document;
            this.quoted = quoted;
        }

        void read() throws IOException {
            for (String text : Files.readAllLines(file, StandardCharsets.UTF_8)) {
                line++;
                if (text.startsWith("> ")) {
                    readQuote(text.substring(2));
                } else if (!text.isBlank() && !text.startsWith("#")) {
                    endQuote();
                    readLine(text.trim());
                }
            }
            endRun();
            endSentence();
        }

        void readQuote(String text) {
            if (!isQuoting) {
                endRun();
                endSentence();
                quote.setLength(0);
                isQuoting = true;
                checksAtQuote = checks;
            }
            quote.append(text).append(' ');
        }

        void endQuote() {
            if (!isQuoting) {
                return;
            }
            isQuoting = false;
            sentences++;
            String sentence = plain(quote.toString());
            int at = document.indexOf(sentence);
            if (at < 0 && !document.isEmpty()) {
                fail(place() + "the document does not say: " + sentence);
            }
            for (; at >= 0; at = document.indexOf(sentence, at + 1)) {
                Arrays.fill(quoted, at, at + sentence.length(), true);
            }
        }

        void endSentence() {
            if (quote.length() > 0 && checks == checksAtQuote) {
                fail(place() + "nothing is tested of: " + quote);
            }
        }

        String place() {
            return file.getFileName() + ":" + line + ": ";
        }

        void endRun() {
            if (run != null) {
                run.compareWithTwin();
            }
            run = null;
        }

        void begin() {
            endRun();
            runs++;
            run = new Run(this);
        }

        void readLine(String text) {
            int cut = text.lastIndexOf(" = ");
            String left = (cut < 0 ? text : text.substring(0, cut)).trim();
            String[] wants = cut < 0 ? new String[0] : text.substring(cut + 3).trim().split(" +");
            String verb = left.split(" ")[0];
            String rest = left.substring(verb.length()).trim();
            if (verb.equals("new")) {
                begin();
                if (!rest.isEmpty() && run.tell(unquoted(rest)) < 0) {
                    fail(place() + "a FAULT in " + rest);
                }
            } else if (verb.equals("fault")) {
                begin();
                fault(unquoted(rest), Integer.parseInt(wants[0]));
            } else if (verb.equals("reads")) {
                begin();
                String told = unquoted(rest);
                due(left, run.tell(told), number(wants[0]));
                due("count 5 behind " + left, run.call("count", 5), 0);
            } else if (verb.equals("tell")) {
                due(left, run.tell(unquoted(rest)), number(wants[0]));
            } else if (verb.equals("types")) {
                due(left, run.type(unquoted(rest)), number(wants[0]));
            } else if (verb.equals("repeat")) {
                repeat(rest);
            } else {
                calls(verb, rest, wants);
            }
        }

        String unquoted(String text) {
            if (text.length() < 2 || !text.startsWith("'") || !text.endsWith("'")) {
                fail(place() + "a text stands between ' and '");
                return "";
            }
            return text.substring(1, text.length() - 1);
        }

        /** In a party that is on its way, with all that could be lost. */
        void fault(String text, int at) {
            run.tell("w7 0;w5 1;t2 1 1 0 0;t3 2 0 1 1;s3 1 1;s4 0 0;");
            run.call("keep", 1);
            run.call("goes");
            run.call("gives", 0, 1);
            run.call("book", 0, 5, 43);
            run.call("keep", 0);
            run.type(text);
            due("way() of '" + text + "'", run.call("way"), -10 - at);
            due("count 5 behind the FAULT", run.call("count", 5), text.length());
        }

        void repeat(String rest) {
            String[] words = rest.split(" ");
            int many = Integer.parseInt(words[0]);
            int[] given = numbers(Arrays.copyOfRange(words, 2, words.length));
            for (int i = 0; i < many; i++) {
                run.call(words[1], given);
            }
        }

        /** The last number may be told as from..to, with an answer for each. */
        void calls(String verb, String rest, String[] wants) {
            String[] words = rest.isEmpty() ? new String[0] : rest.split(" +");
            String last = words.length == 0 ? "" : words[words.length - 1];
            int[] given = numbers(words);
            if (last.contains("..")) {
                int from = number(last.substring(0, last.indexOf("..")));
                int to = number(last.substring(last.indexOf("..") + 2));
                if (wants.length != 0 && wants.length != to - from + 1) {
                    fail(place() + "not so many answers");
                    return;
                }
                for (int i = from; i <= to; i++) {
                    given[given.length - 1] = i;
                    answer(verb, given, wants.length == 0 ? null : wants[i - from]);
                }
                return;
            }
            answer(verb, given, wants.length == 0 ? null : wants[0]);
        }

        void answer(String verb, int[] given, String want) {
            long got = run.call(verb, given);
            if (want != null) {
                due(verb + Arrays.toString(given), got, number(want));
            }
        }

        void due(String call, long got, long want) {
            checks++;
            if (got != want) {
                fail(place() + call + " answered " + got + ", due is " + want + ", for: " + quote);
            }
        }
    }

    private static int number(String word) {
        return NAMES.containsKey(word) ? NAMES.get(word) : Integer.parseInt(word);
    }

    private static int[] numbers(String[] words) {
        int[] numbers = new int[words.length];
        for (int i = 0; i < words.length; i++) {
            numbers[i] = words[i].contains("..") ? 0 : number(words[i]);
        }
        return numbers;
    }

    private record Call(String name, int[] given) {
        long on(TentBearers x) {
            Method m = METHODS.get(name);
            if (m == null || m.getParameterCount() != given.length) {
                throw new IllegalStateException("no such call: " + name + Arrays.toString(given));
            }
            try {
                return ((Number) m.invoke(x, Arrays.stream(given).boxed().toArray())).longValue();
            } catch (ReflectiveOperationException e) {
                throw new IllegalStateException(name + Arrays.toString(given) + " failed", e);
            }
        }

        boolean changes(long answer) {
            if (!CHANGING.contains(name)) {
                return false;
            }
            return name.equals("mark") ? answer != -1000000 : answer >= 0;
        }
    }

    /** The calls on one object. */
    private static final class Run {
        final Sheet sheet;
        final int line;
        final TentBearers x = new TentBearers();
        final List<Call> all = new ArrayList<>();
        final List<Call> changing = new ArrayList<>();

        Run(Sheet sheet) {
            this.sheet = sheet;
            line = sheet.line;
        }

        long call(String name, int... given) {
            Call call = new Call(name, given.clone());
            long answer = call.on(x);
            all.add(call);
            if (call.changes(answer)) {
                changing.add(call);
            }
            if (all.size() > MOST_CALLS) {
                fail(sheet.place() + "more than " + MOST_CALLS + " calls");
            }
            return answer;
        }

        long type(String text) {
            long many = 0;
            for (int i = 0; i < text.length(); i++) {
                many = call("type", text.charAt(i));
            }
            return many;
        }

        long tell(String text) {
            type(text);
            return call("way");
        }

        void compareWithTwin() {
            if (all.size() == changing.size()) {
                return;
            }
            compare("as it is", List.of());
            for (int image = 0; image <= 1; image++) {
                compare("behind back(" + image + ")", List.of(new Call("back", new int[] {image})));
            }
            for (int many = 1; many <= 11; many++) {
                List<Call> undone = new ArrayList<>();
                for (int i = 0; i < many; i++) {
                    undone.add(new Call("undo", new int[0]));
                }
                compare("behind " + many + " times undo()", undone);
            }
        }

        /** An object is free behind its last call, so a run that is too long is not looked at. */
        void compare(String when, List<Call> then) {
            if (all.size() + then.size() + LOOKED_AT > MOST_CALLS) {
                return;
            }
            String[] mine = look(all, then);
            String[] twins = look(changing, then);
            for (int i = 0; i < mine.length; i++) {
                if (!mine[i].equals(twins[i])) {
                    fail(sheet.file.getFileName() + ":" + line + ": a call that is refused or asks has changed something, "
                        + when + ": " + mine[i] + ", due is " + twins[i]);
                    return;
                }
            }
        }

        /** What can be seen behind those calls. */
        static String[] look(List<Call> calls, List<Call> then) {
            TentBearers y = new TentBearers();
            for (Call call : calls) {
                call.on(y);
            }
            List<String> seen = new ArrayList<>();
            for (Call call : then) {
                seen.add(call.name + " " + call.on(y));
            }
            for (int what = 0; what <= 7; what++) {
                seen.add("now(" + what + ") " + y.now(what));
            }
            for (int what = 0; what <= 5; what++) {
                seen.add("count(" + what + ") " + y.count(what));
            }
            seen.add("trace() " + y.trace());
            for (int w = 0; w < 4; w++) {
                for (int what = 0; what <= 5; what++) {
                    seen.add("walker(" + w + ", " + what + ") " + y.walker(w, what));
                }
            }
            for (int t = 0; t < 7; t++) {
                for (int what = 0; what <= 7; what++) {
                    seen.add("thing(" + t + ", " + what + ") " + y.thing(t, what));
                }
            }
            for (int s = 0; s < 8; s++) {
                seen.add("stage(" + s + ", 0) " + y.stage(s, 0));
            }
            seen.add("rest(0) " + y.rest(0));
            seen.add("sacks(0) " + y.sacks(0));
            seen.add("sacks(1) " + y.sacks(1));
            seen.add("way() " + y.way());
            return seen.toArray(new String[0]);
        }
    }
}
