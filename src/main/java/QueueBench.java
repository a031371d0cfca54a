import java.util.Arrays;
import java.util.NoSuchElementException;

/** A small language whose programs are compiled from a text and run step by step. */
public final class QueueBench {
    public static final int NONE = -1;

    private static final int TEXT_LIMIT = 3000;
    private static final int STEP_LIMIT = 300;
    private static final int FACTOR_LIMIT = 60;
    private static final int NESTING_LIMIT = 20;
    private static final int INPUT_LIMIT = 300;
    private static final int OUTPUT_LIMIT = 200;
    private static final int RUN_LIMIT = 1000;
    private static final long GREATEST_NUMBER = 2147483647L;
    private static final int NAME_COUNT = 26;
    private static final int CELL_COUNT = 100;

    /** The program's own statements are kept as one more procedure, behind A .. Z. */
    private static final int PROCEDURE_COUNT = 26;
    private static final int MAIN = PROCEDURE_COUNT;

    private static final int NO_TROUBLE = 0;
    private static final int ENDED = 1;
    private static final int DIVIDED_BY_ZERO = 2;
    private static final int NO_SUCH_CELL = 3;
    private static final int NO_INPUT = 4;

    /** No text holds the sign 0, so it can stand for what comes behind the last word. */
    private static final char END = 0;

    /** Kinds of words, of steps and of code that no single sign of the language tells apart. */
    private static final char NUMBER = '0';
    private static final char NAME = 'a';
    private static final char CALL = 'A';
    private static final char NEGATE = '~';

    private final Text text = new Text();
    private final Input input = new Input();
    private final Program program = new Program();
    private final Compiler compiler = new Compiler(text, program);
    private final Outputs outputs = new Outputs();
    private final Machine machine = new Machine(program, input, outputs);
    private final TermTable termTable = new TermTable();
    private boolean hasProgram;
    private boolean started;

    public QueueBench() {
    }

    public int feed(int a, int b, int c, int d, int e) throws IllegalStateException {
        int more = signsIn(a) + signsIn(b) + signsIn(c) + signsIn(d) + signsIn(e);
        if (text.length + more > TEXT_LIMIT) {
            throw new IllegalStateException("the text would have more than 3000 signs");
        }
        text.append(a);
        text.append(b);
        text.append(c);
        text.append(d);
        text.append(e);
        return text.length;
    }

    public int clear() {
        int had = text.length;
        text.length = 0;
        return had;
    }

    public int compile() {
        int fault = compiler.firstFault();
        hasProgram = fault == NONE;
        started = false;
        return fault + 1;
    }

    public int give(int v) throws IllegalStateException {
        if (input.size == INPUT_LIMIT) {
            throw new IllegalStateException("the input has 300 values");
        }
        input.append(v);
        return input.size;
    }

    public void start() throws IllegalStateException {
        if (!hasProgram) {
            throw new IllegalStateException("there is no program");
        }
        machine.rewind();
        started = true;
    }

    public int run(int n) throws IllegalArgumentException, IllegalStateException {
        if (n < 0 || n > RUN_LIMIT) {
            throw new IllegalArgumentException("the number of steps is not 0 .. 1000");
        }
        if (!started) {
            throw new IllegalStateException("no program was started");
        }
        return machine.doSteps(n);
    }

    public int state(int what) throws IllegalArgumentException, IllegalStateException {
        if (what < 0 || what > 4) {
            throw new IllegalArgumentException("there is no such state");
        }
        if (!started) {
            throw new IllegalStateException("no program was started");
        }
        switch (what) {
            case 0:
                return machine.condition();
            case 1:
                return machine.stepsDone;
            case 2:
                return outputs.total;
            case 3:
                return machine.inputsRead;
            default:
                return machine.place();
        }
    }

    public int output(int k) throws NoSuchElementException {
        if (!started || !outputs.keeps(k)) {
            throw new NoSuchElementException("there is no such output");
        }
        return outputs.at(k);
    }

    public int name(int k) throws NoSuchElementException {
        if (!started || k < 0 || k >= NAME_COUNT) {
            throw new NoSuchElementException("there is no such name");
        }
        return machine.names[k];
    }

    public int cell(int k) throws NoSuchElementException {
        if (!started || !isCell(k)) {
            throw new NoSuchElementException("there is no such cell");
        }
        return machine.cells[k];
    }

    public int terms(int place) throws NoSuchElementException {
        int step = hasProgram ? program.stepAt(place) : NONE;
        if (step == NONE) {
            throw new NoSuchElementException("no step begins there");
        }
        return termTable.differentTerms(program, step);
    }

    public int count(int what) throws IllegalArgumentException {
        switch (what) {
            case 0:
                return text.length;
            case 1:
                return hasProgram ? program.stepCount : 0;
            case 2:
                return hasProgram ? program.procedureCount : 0;
            case 3:
                return input.size;
            default:
                throw new IllegalArgumentException("there is no such count");
        }
    }

    private static int signsIn(int packed) {
        int signs = 0;
        for (int shift = 0; shift < 32; shift += 8) {
            if ((packed >>> shift & 255) != 0) {
                signs++;
            }
        }
        return signs;
    }

    private static boolean isCell(int number) {
        return number >= 0 && number < CELL_COUNT;
    }

    private static boolean isDigit(char sign) {
        return sign >= '0' && sign <= '9';
    }

    private static boolean isName(char sign) {
        return sign >= 'a' && sign <= 'z';
    }

    private static boolean isProcedure(char sign) {
        return sign >= 'A' && sign <= 'Z';
    }

    /** The signs that were fed. */
    private static final class Text {
        private final char[] signs = new char[TEXT_LIMIT];
        private int length;

        void append(int packed) {
            for (int shift = 0; shift < 32; shift += 8) {
                int sign = packed >>> shift & 255;
                if (sign != 0 && length < TEXT_LIMIT) {
                    signs[length] = (char) sign;
                    length++;
                }
            }
        }

        char signAt(int place) {
            return place >= 0 && place < length ? signs[place] : END;
        }

        int wordFrom(int place) {
            int word = place;
            while (word < length && isBlank(signAt(word))) {
                word++;
            }
            return word;
        }

        private static boolean isBlank(char sign) {
            return sign == ' ' || sign == '\n';
        }
    }

    /** The text, word by word. */
    private static final class Words {
        private final Text text;
        private int place;
        private int behind;
        private char sign;
        private long number;

        Words(Text text) {
            this.text = text;
        }

        void toFirst() {
            behind = 0;
            toNext();
        }

        void toNext() {
            place = text.wordFrom(behind);
            sign = text.signAt(place);
            behind = place + 1;
            if (isDigit(sign)) {
                readNumber();
            }
        }

        boolean atEnd() {
            return sign == END;
        }

        boolean braceFollows() {
            return text.signAt(text.wordFrom(behind)) == '{';
        }

        boolean isTooGreat() {
            return number > GREATEST_NUMBER;
        }

        private void readNumber() {
            number = sign - '0';
            while (behind < text.length && isDigit(text.signAt(behind))) {
                // A row of digits can be 3000 long: once too great, the number grows no more.
                if (!isTooGreat()) {
                    number = number * 10 + (text.signAt(behind) - '0');
                }
                behind++;
            }
            sign = NUMBER;
        }
    }

    /**
     * A compiled text. Steps stand in the order of the text, so a step stands behind the one whose
     * block it is in. Expressions are kept with each sign behind its operands: in this order their
     * troubles come from left to right.
     */
    private static final class Program {
        private final char[] kinds = new char[STEP_LIMIT];
        private final int[] places = new int[STEP_LIMIT];
        private final int[] targets = new int[STEP_LIMIT];
        private final int[] parents = new int[STEP_LIMIT];
        private final int[] firsts = new int[STEP_LIMIT];
        private final int[] seconds = new int[STEP_LIMIT];
        private final int[] nexts = new int[STEP_LIMIT];
        private final int[] codeEnds = new int[STEP_LIMIT];
        /** Each piece of code comes from a word of its own, so there are no more than signs. */
        private final char[] code = new char[TEXT_LIMIT];
        private final int[] operands = new int[TEXT_LIMIT];
        private final int[] entries = new int[PROCEDURE_COUNT + 1];
        private int stepCount;
        private int procedureCount;

        void empty() {
            stepCount = 0;
            procedureCount = 0;
            Arrays.fill(entries, NONE);
        }

        /** The caller has looked that there is room. */
        int addStep(char kind, int place, int target, int parent) {
            int step = stepCount;
            kinds[step] = kind;
            places[step] = place;
            targets[step] = target;
            parents[step] = parent;
            firsts[step] = NONE;
            seconds[step] = NONE;
            nexts[step] = NONE;
            codeEnds[step] = codeStart(step);
            stepCount++;
            return step;
        }

        void addCode(char sign, int operand) {
            int last = stepCount - 1;
            if (last >= 0 && codeEnds[last] < TEXT_LIMIT) {
                code[codeEnds[last]] = sign;
                operands[codeEnds[last]] = operand;
                codeEnds[last]++;
            }
        }

        int codeStart(int step) {
            return step == 0 ? 0 : codeEnds[step - 1];
        }

        boolean isCondition(int step) {
            return kinds[step] == '?' || kinds[step] == '*';
        }

        /** Where a block ends, the way goes on as told by the step that the block belongs to. */
        void linkBlockEnds() {
            for (int step = 0; step < stepCount; step++) {
                int parent = parents[step];
                if (nexts[step] == NONE && parent != NONE) {
                    nexts[step] = kinds[parent] == '*' ? parent : nexts[parent];
                }
            }
        }

        int stepAt(int place) {
            for (int step = 0; step < stepCount; step++) {
                if (places[step] == place) {
                    return step;
                }
            }
            return NONE;
        }
    }

    /** Takes the words of one statement's expressions and writes their code. */
    private static final class Expression {
        private static final int OF_PARENTHESIS = 0;
        private static final int OF_COMPARISON = 1;
        private static final int OF_SUM = 2;
        private static final int OF_TERM = 3;
        private static final int OF_PREFIX = 4;

        /** Each sign that waits for its last operand is a factor or stands behind one. */
        private static final int MOST_WAITING = 2 * FACTOR_LIMIT;

        private final Words words;
        private final Program program;
        private final char[] waiting = new char[MOST_WAITING];
        private final int[] ranks = new int[MOST_WAITING];
        private int waitingCount;
        private int parentheses;
        private int factors;
        private boolean operandIsDue;

        Expression(Words words, Program program) {
            this.words = words;
            this.program = program;
        }

        void begin() {
            waitingCount = 0;
            parentheses = 0;
            factors = 0;
            operandIsDue = true;
        }

        /** A cell's number and its value are counted as one. */
        void goOnWithValue() {
            operandIsDue = true;
        }

        boolean mayEnd() {
            return !operandIsDue && parentheses == 0;
        }

        void end() {
            writeDownTo(OF_COMPARISON);
        }

        boolean takes(char sign) {
            boolean taken = operandIsDue ? takesFactor(sign) : takesOperator(sign);
            if (taken && !operandIsDue) {
                writeDownTo(OF_PREFIX);
            }
            return taken;
        }

        private boolean takesFactor(char sign) {
            if (factors == FACTOR_LIMIT) {
                return false;
            }
            factors++;
            switch (sign) {
                case '-':
                    return holds(NEGATE, OF_PREFIX);
                case '@':
                    return holds('@', OF_PREFIX);
                case '(':
                    return opensParenthesis();
                case '#':
                    return writesOperand('#', 0);
                case NUMBER:
                    return !words.isTooGreat() && writesOperand(NUMBER, (int) words.number);
                default:
                    return isName(sign) && writesOperand(NAME, sign - 'a');
            }
        }

        private boolean opensParenthesis() {
            if (parentheses == NESTING_LIMIT) {
                return false;
            }
            parentheses++;
            return holds('(', OF_PARENTHESIS);
        }

        private boolean writesOperand(char sign, int operand) {
            program.addCode(sign, operand);
            operandIsDue = false;
            return true;
        }

        private boolean takesOperator(char sign) {
            switch (sign) {
                case '*':
                case '/':
                case '%':
                    return takesSign(sign, OF_TERM);
                case '+':
                case '-':
                    return takesSign(sign, OF_SUM);
                case '<':
                case '=':
                    writeDownTo(OF_SUM);
                    return !comparisonWaits() && takesSign(sign, OF_COMPARISON);
                case ')':
                    return closesParenthesis();
                default:
                    return false;
            }
        }

        private boolean takesSign(char sign, int rank) {
            writeDownTo(rank);
            operandIsDue = true;
            return holds(sign, rank);
        }

        private boolean closesParenthesis() {
            if (parentheses == 0) {
                return false;
            }
            writeDownTo(OF_COMPARISON);
            waitingCount--;
            parentheses--;
            return true;
        }

        private boolean holds(char sign, int rank) {
            if (waitingCount == MOST_WAITING) {
                return false;
            }
            waiting[waitingCount] = sign;
            ranks[waitingCount] = rank;
            waitingCount++;
            return true;
        }

        private boolean comparisonWaits() {
            return waitingCount > 0 && ranks[waitingCount - 1] == OF_COMPARISON;
        }

        private void writeDownTo(int lowestRank) {
            while (waitingCount > 0 && ranks[waitingCount - 1] >= lowestRank) {
                waitingCount--;
                program.addCode(waiting[waitingCount], 0);
            }
        }
    }

    /** Takes the text word by word; the first word that it does not take is the fault. */
    private static final class Compiler {
        private static final int STATEMENT = 0;
        private static final int STATEMENT_OR_ELSE = 1;
        private static final int EQUALS = 2;
        private static final int CELL_NUMBER = 3;
        private static final int EXPRESSION = 4;
        private static final int CALL_END = 5;
        private static final int PROCEDURE_BLOCK = 6;
        private static final int ELSE_BLOCK = 7;

        private final Words words;
        private final Program program;
        private final Expression expression;
        private final boolean[] defined = new boolean[PROCEDURE_COUNT];
        /** Of each open block, the program itself being block 0. */
        private final int[] openers = new int[NESTING_LIMIT + 1];
        private final boolean[] elses = new boolean[NESTING_LIMIT + 1];
        private final int[] lastSteps = new int[NESTING_LIMIT + 1];
        private int depth;
        private int awaited;
        private int procedure;
        private int step;

        Compiler(Text text, Program program) {
            this.words = new Words(text);
            this.program = program;
            this.expression = new Expression(words, program);
        }

        int firstFault() {
            reset();
            words.toFirst();
            for (int k = 0; k < TEXT_LIMIT && !words.atEnd() && takes(words.sign); k++) {
                words.toNext();
            }
            if (!words.atEnd() || !mayEnd()) {
                return words.place;
            }
            program.linkBlockEnds();
            return NONE;
        }

        private void reset() {
            program.empty();
            for (int k = 0; k < PROCEDURE_COUNT; k++) {
                defined[k] = false;
            }
            depth = 0;
            openers[0] = NONE;
            lastSteps[0] = NONE;
            awaited = STATEMENT;
            procedure = MAIN;
        }

        private boolean mayEnd() {
            return depth == 0 && (awaited == STATEMENT || awaited == STATEMENT_OR_ELSE);
        }

        private boolean takes(char sign) {
            switch (awaited) {
                case STATEMENT:
                    return beginsStatement(sign);
                case STATEMENT_OR_ELSE:
                    return sign == ':' ? awaits(ELSE_BLOCK) : beginsStatement(sign);
                case EQUALS:
                    return sign == '=' && awaitsValue();
                case CELL_NUMBER:
                    return expression.takes(sign) && awaits(expression.mayEnd() ? EQUALS : CELL_NUMBER);
                case EXPRESSION:
                    return endsExpression(sign) ? closesExpression(sign) : expression.takes(sign);
                case CALL_END:
                    return sign == ';' && awaits(STATEMENT);
                case PROCEDURE_BLOCK:
                    return sign == '{' && opensBlock(NONE, false);
                default:
                    return sign == '{' && opensBlock(lastSteps[depth], true);
            }
        }

        /** Answers true, so that it can end what takes a word. */
        private boolean awaits(int what) {
            awaited = what;
            return true;
        }

        private boolean awaitsValue() {
            expression.goOnWithValue();
            return awaits(EXPRESSION);
        }

        private boolean beginsStatement(char sign) {
            if (isProcedure(sign)) {
                return takesProcedure(sign - 'A');
            }
            if (isName(sign)) {
                return addsStep('=', sign - 'a') && awaits(EQUALS);
            }
            switch (sign) {
                case '@':
                    return addsStep(sign, NONE) && awaits(CELL_NUMBER);
                case '!':
                case '?':
                case '*':
                    return addsStep(sign, NONE) && awaits(EXPRESSION);
                case '}':
                    return closesBlock();
                default:
                    return false;
            }
        }

        private boolean takesProcedure(int which) {
            if (depth == 0 && words.braceFollows()) {
                procedure = which;
                return !defined[which] && awaits(PROCEDURE_BLOCK);
            }
            return defined[which] && addsStep(CALL, which) && awaits(CALL_END);
        }

        private boolean addsStep(char kind, int target) {
            if (program.stepCount == STEP_LIMIT) {
                return false;
            }
            step = program.addStep(kind, words.place, target, openers[depth]);
            linkStep();
            expression.begin();
            return true;
        }

        private void linkStep() {
            int opener = openers[depth];
            if (lastSteps[depth] != NONE) {
                program.nexts[lastSteps[depth]] = step;
            } else if (opener == NONE) {
                program.entries[procedure] = step;
            } else if (elses[depth]) {
                program.seconds[opener] = step;
            } else {
                program.firsts[opener] = step;
            }
            lastSteps[depth] = step;
        }

        private boolean endsExpression(char sign) {
            return expression.mayEnd() && sign == (program.isCondition(step) ? '{' : ';');
        }

        private boolean closesExpression(char sign) {
            expression.end();
            return sign == '{' ? opensBlock(step, false) : awaits(STATEMENT);
        }

        private boolean opensBlock(int opener, boolean isElse) {
            if (depth == NESTING_LIMIT) {
                return false;
            }
            depth++;
            openers[depth] = opener;
            elses[depth] = isElse;
            lastSteps[depth] = NONE;
            return awaits(STATEMENT);
        }

        private boolean closesBlock() {
            if (depth == 0) {
                return false;
            }
            int opener = openers[depth];
            boolean elseMayFollow = opener != NONE && program.kinds[opener] == '?' && !elses[depth];
            depth--;
            if (opener == NONE) {
                closeDefinition();
            }
            return awaits(elseMayFollow ? STATEMENT_OR_ELSE : STATEMENT);
        }

        private void closeDefinition() {
            defined[procedure] = true;
            program.procedureCount++;
            procedure = MAIN;
        }
    }

    /** The values that were given. */
    private static final class Input {
        private final int[] values = new int[INPUT_LIMIT];
        private int size;

        /** The caller has looked that there is room. */
        void append(int value) {
            values[size] = value;
            size++;
        }
    }

    /** The latest values that were put out, each in the place of the one that it drives out. */
    private static final class Outputs {
        private final int[] kept = new int[OUTPUT_LIMIT];
        private int total;

        void append(int value) {
            kept[total % OUTPUT_LIMIT] = value;
            total++;
        }

        boolean keeps(int k) {
            return k >= 0 && k < total && k >= total - OUTPUT_LIMIT;
        }

        int at(int k) {
            return kept[k % OUTPUT_LIMIT];
        }
    }

    /** What waits for its sign: each comes from a factor of one statement. */
    private static final class Operands {
        private final int[] values = new int[FACTOR_LIMIT];
        private int height;

        void push(int value) {
            if (height < FACTOR_LIMIT) {
                values[height] = value;
                height++;
            }
        }

        int pop() {
            if (height == 0) {
                return 0;
            }
            height--;
            return values[height];
        }
    }

    /** Runs the program step by step. */
    private static final class Machine {
        private final Program program;
        private final Input input;
        private final Outputs outputs;
        private final int[] names = new int[NAME_COUNT];
        private final int[] cells = new int[CELL_COUNT];
        /** A procedure calls only those that were defined ahead of it, so no more calls are open. */
        private final int[] returns = new int[PROCEDURE_COUNT];
        private final Operands operands = new Operands();
        private int openCalls;
        private int next;
        private int trouble;
        private int stepsDone;
        private int inputsRead;
        private int inputsReadByStep;

        Machine(Program program, Input input, Outputs outputs) {
            this.program = program;
            this.input = input;
            this.outputs = outputs;
        }

        void rewind() {
            Arrays.fill(names, 0);
            Arrays.fill(cells, 0);
            outputs.total = 0;
            openCalls = 0;
            next = program.entries[MAIN];
            trouble = NO_TROUBLE;
            stepsDone = 0;
            inputsRead = 0;
        }

        int condition() {
            return trouble == NO_TROUBLE && next == NONE ? ENDED : trouble;
        }

        int place() {
            return next == NONE ? NONE : program.places[next];
        }

        int doSteps(int most) {
            int done = 0;
            while (done < most && next != NONE && trouble == NO_TROUBLE) {
                doStep();
                if (trouble == NO_TROUBLE) {
                    done++;
                }
            }
            stepsDone += done;
            return done;
        }

        private void doStep() {
            workOut(next);
            if (trouble == NO_TROUBLE && program.kinds[next] == '@') {
                lookAtCell(operands.values[0]);
            }
            if (trouble == NO_TROUBLE) {
                inputsRead += inputsReadByStep;
                next = act(next);
                leaveEndedCalls();
            }
        }

        private void workOut(int step) {
            operands.height = 0;
            inputsReadByStep = 0;
            int end = program.codeEnds[step];
            for (int k = program.codeStart(step); k < end && trouble == NO_TROUBLE; k++) {
                workOutSign(program.code[k], program.operands[k]);
            }
        }

        private void workOutSign(char sign, int operand) {
            switch (sign) {
                case NUMBER:
                    operands.push(operand);
                    break;
                case NAME:
                    operands.push(names[operand]);
                    break;
                case '#':
                    read();
                    break;
                case '@':
                    fetch();
                    break;
                case NEGATE:
                    operands.push(-operands.pop());
                    break;
                default:
                    join(sign);
                    break;
            }
        }

        private void read() {
            int at = inputsRead + inputsReadByStep;
            if (at < input.size) {
                operands.push(input.values[at]);
                inputsReadByStep++;
            } else {
                trouble = NO_INPUT;
            }
        }

        private void fetch() {
            int number = operands.pop();
            lookAtCell(number);
            if (trouble == NO_TROUBLE) {
                operands.push(cells[number]);
            }
        }

        private void lookAtCell(int number) {
            if (!isCell(number)) {
                trouble = NO_SUCH_CELL;
            }
        }

        private void join(char sign) {
            int right = operands.pop();
            int left = operands.pop();
            if (right == 0 && (sign == '/' || sign == '%')) {
                trouble = DIVIDED_BY_ZERO;
            } else {
                operands.push(joined(sign, left, right));
            }
        }

        private static int joined(char sign, int left, int right) {
            switch (sign) {
                case '+':
                    return left + right;
                case '-':
                    return left - right;
                case '*':
                    return left * right;
                case '/':
                    return right == 0 ? 0 : left / right;
                case '%':
                    return right == 0 ? 0 : left % right;
                case '<':
                    return left < right ? 1 : 0;
                default:
                    return left == right ? 1 : 0;
            }
        }

        /** Does what the step tells with its values, and answers the step behind it. */
        private int act(int step) {
            int target = program.targets[step];
            switch (program.kinds[step]) {
                case '=':
                    names[target] = operands.values[0];
                    return program.nexts[step];
                case '@':
                    cells[operands.values[0]] = operands.values[1];
                    return program.nexts[step];
                case '!':
                    outputs.append(operands.values[0]);
                    return program.nexts[step];
                case CALL:
                    openCall(program.nexts[step]);
                    return program.entries[target];
                case '?':
                    return choose(step);
                default:
                    return loop(step);
            }
        }

        private void openCall(int behind) {
            if (openCalls < PROCEDURE_COUNT) {
                returns[openCalls] = behind;
                openCalls++;
            }
        }

        private int choose(int step) {
            int block = operands.values[0] != 0 ? program.firsts[step] : program.seconds[step];
            return block != NONE ? block : program.nexts[step];
        }

        private int loop(int step) {
            if (operands.values[0] == 0) {
                return program.nexts[step];
            }
            return program.firsts[step] != NONE ? program.firsts[step] : step;
        }

        /** The program has ended as soon as no step is left, so ended calls are left at once. */
        private void leaveEndedCalls() {
            while (next == NONE && openCalls > 0) {
                openCalls--;
                next = returns[openCalls];
            }
        }
    }

    /** The different terms of one step, each kept as its sign and the terms that the sign is of. */
    private static final class TermTable {
        /** Each term is a factor or joins two others. */
        private static final int MOST_TERMS = 2 * FACTOR_LIMIT;

        private final char[] signs = new char[MOST_TERMS];
        private final int[] lefts = new int[MOST_TERMS];
        private final int[] rights = new int[MOST_TERMS];
        private final Operands operands = new Operands();
        private int size;

        int differentTerms(Program program, int step) {
            size = 0;
            operands.height = 0;
            int end = program.codeEnds[step];
            for (int k = program.codeStart(step); k < end; k++) {
                addSign(program.code[k], program.operands[k]);
            }
            return size;
        }

        private void addSign(char sign, int operand) {
            if (sign == NUMBER || sign == NAME) {
                operands.push(termOf(sign, operand, NONE));
            } else if (sign == '#') {
                operands.push(newTerm(sign, NONE, NONE));
            } else if (sign == NEGATE || sign == '@') {
                operands.push(termOf(sign, operands.pop(), NONE));
            } else {
                int right = operands.pop();
                operands.push(termOf(sign, operands.pop(), right));
            }
        }

        private int termOf(char sign, int left, int right) {
            for (int term = 0; term < size; term++) {
                if (signs[term] == sign && lefts[term] == left && rights[term] == right) {
                    return term;
                }
            }
            return newTerm(sign, left, right);
        }

        private int newTerm(char sign, int left, int right) {
            int term = size;
            if (term < MOST_TERMS) {
                signs[term] = sign;
                lefts[term] = left;
                rights[term] = right;
                size++;
            }
            return term;
        }
    }
}
