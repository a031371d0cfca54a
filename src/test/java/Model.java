import java.util.ArrayList;
import java.util.HashMap;
import java.util.HashSet;
import java.util.List;
import java.util.Map;
import java.util.NoSuchElementException;
import java.util.Set;

/**
 * A second reading of the document, plainer than the class and built another way: the text is read by
 * functions that call one another as the grammar does, and a program is run anew from its beginning for
 * every answer.
 */
final class Model {
    /** A word with its place; the end is an empty word. */
    private record Word(String text, int place) {
    }

    private record Node(String sign, List<Node> parts) {
    }

    private record Step(String kind, int place, String target, List<Node> expressions, List<Step> first,
            List<Step> second) {
    }

    private static final class Fault extends RuntimeException {
        private static final long serialVersionUID = 1;
        private final int place;

        Fault(int place) {
            this.place = place;
        }
    }

    /** Ends a run: its steps are used up (0) or a step came to trouble. */
    private static final class Halt extends RuntimeException {
        private static final long serialVersionUID = 1;
        private final int trouble;

        Halt(int trouble) {
            this.trouble = trouble;
        }
    }

    private String text = "";
    private final List<Integer> inputs = new ArrayList<>();

    private List<Word> words;
    private int at;
    private int blocks;
    private int parentheses;
    private int factors;
    private List<Step> allSteps;
    private Map<String, List<Step>> procedures;

    private boolean hasProgram;
    private List<Step> program;
    private List<Step> programSteps;
    private Map<String, List<Step>> programProcedures;

    private boolean started;
    private int stepsAsked;
    private int stepsLeft;
    private int stepsDone;
    private int state;
    private int place;
    private int read;
    private int readNow;
    private int[] names;
    private int[] cells;
    private List<Integer> put;

    int feed(int... packed) {
        StringBuilder more = new StringBuilder();
        for (int each : packed) {
            for (int k = 0; k < 4; k++) {
                int sign = each >> 8 * k & 0xff;
                if (sign != 0) {
                    more.append((char) sign);
                }
            }
        }
        if (text.length() + more.length() > 3000) {
            throw new IllegalStateException();
        }
        text += more;
        return text.length();
    }

    int clear() {
        int had = text.length();
        text = "";
        return had;
    }

    int give(int v) {
        if (inputs.size() >= 300) {
            throw new IllegalStateException();
        }
        inputs.add(v);
        return inputs.size();
    }

    int compile() {
        hasProgram = false;
        started = false;
        words = wordsOf(text);
        at = 0;
        blocks = 0;
        allSteps = new ArrayList<>();
        procedures = new HashMap<>();
        try {
            program = readProgram();
        } catch (Fault e) {
            return e.place + 1;
        }
        hasProgram = true;
        programSteps = allSteps;
        programProcedures = procedures;
        return 0;
    }

    private static List<Word> wordsOf(String text) {
        List<Word> words = new ArrayList<>();
        int k = 0;
        while (k < text.length()) {
            int from = k;
            k++;
            if ("0123456789".indexOf(text.charAt(from)) >= 0) {
                while (k < text.length() && "0123456789".indexOf(text.charAt(k)) >= 0) {
                    k++;
                }
            }
            if (" \n".indexOf(text.charAt(from)) < 0) {
                words.add(new Word(text.substring(from, k), from));
            }
        }
        words.add(new Word("", text.length()));
        return words;
    }

    private String word() {
        return words.get(at).text;
    }

    private Fault faultHere() {
        return new Fault(words.get(at).place);
    }

    private void expect(String sign) {
        if (!word().equals(sign)) {
            throw faultHere();
        }
        at++;
    }

    private boolean isNext(String pattern) {
        return word().matches(pattern);
    }

    private List<Step> readProgram() {
        List<Step> steps = new ArrayList<>();
        while (!word().isEmpty()) {
            if (isNext("[A-Z]") && words.get(at + 1).text.equals("{")) {
                String name = word();
                if (procedures.containsKey(name)) {
                    throw faultHere();
                }
                at++;
                procedures.put(name, readBlock());
            } else {
                steps.add(readStatement());
            }
        }
        return steps;
    }

    private List<Step> readBlock() {
        if (blocks == 20 && word().equals("{")) {
            throw faultHere();
        }
        expect("{");
        blocks++;
        List<Step> steps = new ArrayList<>();
        while (!word().equals("}")) {
            steps.add(readStatement());
        }
        at++;
        blocks--;
        return steps;
    }

    private Step readStatement() {
        if (allSteps.size() == 300) {
            throw faultHere();
        }
        int index = allSteps.size();
        allSteps.add(null);
        Step step = readStatementKind(words.get(at).place);
        allSteps.set(index, step);
        return step;
    }

    private Step readStatementKind(int from) {
        String first = word();
        List<Node> expressions = new ArrayList<>();
        factors = 0;
        parentheses = 0;
        if (isNext("[A-Z]")) {
            if (!procedures.containsKey(first)) {
                throw faultHere();
            }
            at++;
            expect(";");
            return new Step("call", from, first, expressions, null, null);
        }
        if (!isNext("[a-z@!?*]")) {
            throw faultHere();
        }
        at++;
        if (first.equals("?") || first.equals("*")) {
            expressions.add(readExpression());
            List<Step> block = readBlock();
            List<Step> other = new ArrayList<>();
            if (first.equals("?") && word().equals(":")) {
                at++;
                other = readBlock();
            }
            return new Step(first, from, "", expressions, block, other);
        }
        if (first.equals("@")) {
            expressions.add(readFactor());
        }
        if (!first.equals("!")) {
            expect("=");
        }
        expressions.add(readExpression());
        expect(";");
        return new Step(first.matches("[a-z]") ? "name" : first, from, first, expressions, null, null);
    }

    private Node readExpression() {
        Node left = readSum();
        if (isNext("[<=]")) {
            String sign = word();
            at++;
            return new Node(sign, List.of(left, readSum()));
        }
        return left;
    }

    private Node readSum() {
        Node left = readTerm();
        while (isNext("[+-]")) {
            String sign = word();
            at++;
            left = new Node(sign, List.of(left, readTerm()));
        }
        return left;
    }

    private Node readTerm() {
        Node left = readFactor();
        while (isNext("[*/%]")) {
            String sign = word();
            at++;
            left = new Node(sign, List.of(left, readFactor()));
        }
        return left;
    }

    private Node readFactor() {
        String sign = word();
        if (factors == 60 || !isNext("[0-9]+|[a-z(@#-]")) {
            throw faultHere();
        }
        factors++;
        if (sign.matches("[0-9]+")) {
            String digits = sign.replaceFirst("^0+(?=.)", "");
            if (new java.math.BigInteger(digits).bitLength() > 31) {
                throw faultHere();
            }
            at++;
            return new Node(digits, List.of());
        }
        if (sign.equals("(")) {
            if (parentheses == 20) {
                throw faultHere();
            }
            at++;
            parentheses++;
            Node inside = readExpression();
            expect(")");
            parentheses--;
            return inside;
        }
        at++;
        return sign.matches("[-@]") ? new Node(sign, List.of(readFactor())) : new Node(sign, List.of());
    }

    void start() {
        if (!hasProgram) {
            throw new IllegalStateException();
        }
        started = true;
        stepsAsked = 0;
        runAnew();
    }

    int run(int n) {
        if (n < 0 || n > 1000) {
            throw new IllegalArgumentException();
        }
        needStart();
        int before = stepsDone;
        // What has come to trouble stays as it is, even if more input was given since.
        if (state == 0 && n > 0) {
            stepsAsked += n;
            runAnew();
        }
        return stepsDone - before;
    }

    private void needStart() {
        if (!started) {
            throw new IllegalStateException();
        }
    }

    private void runAnew() {
        names = new int[26];
        cells = new int[100];
        put = new ArrayList<>();
        read = 0;
        stepsLeft = stepsAsked;
        stepsDone = 0;
        place = -1;
        try {
            runAll(program);
            state = 1;
            place = -1;
        } catch (Halt e) {
            state = e.trouble;
        }
    }

    private void runAll(List<Step> steps) {
        for (Step step : steps) {
            runStep(step);
        }
    }

    private void runStep(Step step) {
        int[] values = beginStep(step);
        switch (step.kind) {
            case "call" -> runAll(programProcedures.get(step.target));
            case "name" -> names[step.target.charAt(0) - 'a'] = values[0];
            case "@" -> cells[values[0]] = values[1];
            case "!" -> put.add(values[0]);
            case "?" -> runAll(values[0] != 0 ? step.first : step.second);
            default -> {
                while (values[0] != 0) {
                    runAll(step.first);
                    values = beginStep(step);
                }
            }
        }
    }

    private int[] beginStep(Step step) {
        place = step.place;
        if (stepsLeft == 0) {
            throw new Halt(0);
        }
        readNow = 0;
        int[] values = new int[step.expressions.size()];
        for (int k = 0; k < values.length; k++) {
            values[k] = valueOf(step.expressions.get(k));
        }
        if (step.kind.equals("@") && (values[0] < 0 || values[0] > 99)) {
            throw new Halt(3);
        }
        read += readNow;
        stepsLeft--;
        stepsDone++;
        return values;
    }

    private int valueOf(Node node) {
        if (node.sign.equals("#")) {
            if (read + readNow >= inputs.size()) {
                throw new Halt(4);
            }
            readNow++;
            return inputs.get(read + readNow - 1);
        }
        if (node.parts.isEmpty()) {
            return node.sign.matches("[a-z]") ? names[node.sign.charAt(0) - 'a'] : Integer.parseInt(node.sign);
        }
        int left = valueOf(node.parts.get(0));
        if (node.parts.size() == 1) {
            return node.sign.equals("-") ? (int) -(long) left : cellValue(left);
        }
        return joined(node.sign, left, valueOf(node.parts.get(1)));
    }

    private int cellValue(int number) {
        if (number < 0 || number > 99) {
            throw new Halt(3);
        }
        return cells[number];
    }

    private static int joined(String sign, long left, long right) {
        if (sign.matches("[/%]") && right == 0) {
            throw new Halt(2);
        }
        return switch (sign) {
            case "+" -> (int) (left + right);
            case "-" -> (int) (left - right);
            case "*" -> (int) (left * right);
            case "/" -> (int) (left / right);
            case "%" -> (int) (left - left / right * right);
            case "<" -> left < right ? 1 : 0;
            default -> left == right ? 1 : 0;
        };
    }

    int state(int what) {
        if (what < 0 || what > 4) {
            throw new IllegalArgumentException();
        }
        needStart();
        return switch (what) {
            case 0 -> state;
            case 1 -> stepsDone;
            case 2 -> put.size();
            case 3 -> read;
            default -> place;
        };
    }

    int output(int k) {
        if (!started || k < 0 || k >= put.size() || put.size() - k > 200) {
            throw new NoSuchElementException();
        }
        return put.get(k);
    }

    int name(int k) {
        if (!started || k < 0 || k > 25) {
            throw new NoSuchElementException();
        }
        return names[k];
    }

    int cell(int k) {
        if (!started || k < 0 || k > 99) {
            throw new NoSuchElementException();
        }
        return cells[k];
    }

    int terms(int from) {
        if (hasProgram) {
            for (Step step : programSteps) {
                if (step.place == from) {
                    return differentTerms(step);
                }
            }
        }
        throw new NoSuchElementException();
    }

    private static int differentTerms(Step step) {
        Set<String> different = new HashSet<>();
        int[] inputsSeen = new int[1];
        for (Node each : step.expressions) {
            write(each, different, inputsSeen);
        }
        return different.size();
    }

    /** Terms are the same if they are written the same, with all parentheses and numbered inputs. */
    private static String write(Node node, Set<String> different, int[] inputsSeen) {
        StringBuilder written = new StringBuilder("(").append(node.sign);
        for (Node part : node.parts) {
            written.append(write(part, different, inputsSeen));
        }
        if (node.sign.equals("#")) {
            written.append(inputsSeen[0]++);
        }
        String whole = written.append(")").toString();
        different.add(whole);
        return whole;
    }

    int count(int what) {
        return switch (what) {
            case 0 -> text.length();
            case 1 -> hasProgram ? programSteps.size() : 0;
            case 2 -> hasProgram ? programProcedures.size() : 0;
            case 3 -> inputs.size();
            default -> throw new IllegalArgumentException();
        };
    }
}
