/**
 * Pipelines as texts: jobs with needs, axes, includes and excludes, conditions, parts used by others; read, checked,
 * expanded by combinations, steps with values put in, conditions asked over outcomes.
 *
 * A NAME is held as a long, a character a byte, so that names are compared as numbers; 0 stands for no NAME.
 * Every row is made by a constructor and used again by each READING, so that no call makes an object.
 */
public final class PipelineText {
    public static final int NONE = -1;

    private static final int MAX_TAPE = 700;
    private static final int MAX_WORDS = MAX_TAPE / 2;
    private static final int MAX_NAME = 8;
    private static final int MAX_JOBS = 12;
    private static final int MAX_PARTS = 8;
    private static final int MAX_STEP_WORDS = 6;
    private static final int MAX_ITEMS = 8;
    private static final int MAX_NEEDS = 6;
    private static final int MAX_AXES = 3;
    private static final int MAX_VALUES = 5;
    private static final int MAX_PAIR_ROWS = 4;
    private static final int MAX_PAIRS = 4;
    private static final int MAX_CONDITION_WORDS = 20;
    private static final int MAX_DEPTH = 6;
    private static final int MAX_STEPS = 1000;
    private static final int MAX_OF_AXES = MAX_VALUES * MAX_VALUES * MAX_VALUES;
    private static final int MAX_EXPANDED = MAX_JOBS * (MAX_OF_AXES + MAX_PAIR_ROWS);
    private static final int PART_CULPRIT = 100;
    // The NAME branch, as names are held.
    private static final long BRANCH = 0x6272616e6368L;

    private final char[] tape = new char[MAX_TAPE];
    private int tapeSize = 0;
    private long branchName = 0;
    private final Words words = new Words();
    private final Plan plan = new Plan();
    private final Reader reader = new Reader();
    private final Faults faults = new Faults();
    private final Expansion expansion = new Expansion();

    public PipelineText() {
    }

    public boolean text(long w) {
        int size = tapeSize;
        for (int shift = 56; shift >= 0; shift -= 8) {
            int c = (int) (w >>> shift) & 255;
            if (c == 0) {
                continue;
            }
            if (!isTapeCharacter(c) || size >= MAX_TAPE) {
                return false;
            }
            tape[size] = (char) c;
            size++;
        }
        // What stands beyond tapeSize is not on the TAPE: only here do the characters come.
        tapeSize = size;
        return true;
    }

    public int read() {
        expansion.size = 0;
        words.cut(tape, tapeSize);
        tapeSize = 0;
        plan.clear();
        reader.begin();
        int ill = NONE;
        for (int word = 0; word < words.count && ill == NONE; word++) {
            if (words.beginsLine(word) && !reader.readLine(words, plan, word)) {
                ill = words.lines[word];
            }
        }
        if (ill != NONE) {
            plan.clear();
        }
        faults.look(plan);
        if (faults.fault == 0) {
            plan.countSteps();
        }
        return ill == NONE ? plan.jobCount : -1 - ill;
    }

    public boolean branch() {
        branchName = nameIn(tape, 0, tapeSize);
        tapeSize = 0;
        return branchName != 0;
    }

    public int job(int job, int what) {
        if (!plan.hasJob(job)) {
            return NONE;
        }
        Job asked = plan.jobs[job];
        switch (what) {
            case 0:
                return asked.needCount;
            case 1:
                return asked.axisCount;
            case 2:
                return asked.includes.size;
            case 3:
                return asked.excludes.size;
            case 4:
                return asked.section.size;
            case 5:
                return asked.condition.size > 0 ? 1 : 0;
            default:
                return NONE;
        }
    }

    public int needs(int job, int i) {
        if (!plan.hasJob(job) || i < 0 || i >= plan.jobs[job].needCount) {
            return NONE;
        }
        return plan.jobNamed(plan.jobs[job].needed[i]);
    }

    public int check() {
        return faults.fault;
    }

    public int culprit() {
        return faults.culprit;
    }

    public int expand(int bound) {
        expansion.size = 0;
        if (faults.fault != 0) {
            return 0;
        }
        expansion.addJobs(plan);
        if (expansion.size > bound) {
            expansion.size = 0;
            return -1;
        }
        return expansion.size;
    }

    public int expanded(int i, int what) {
        if (!expansion.has(i)) {
            return NONE;
        }
        switch (what) {
            case 0:
                return expansion.jobs[i];
            case 1:
                return pairsOf(i).size;
            case 2:
                return plan.stepsIn(jobOf(i).section);
            default:
                return NONE;
        }
    }

    public int pair(int i, int pair, int k) {
        if (!expansion.has(i)) {
            return NONE;
        }
        Pairs combination = pairsOf(i);
        if (pair < 0 || pair >= combination.size) {
            return NONE;
        }
        int equalsAt = nameLength(combination.names[pair]);
        if (k < equalsAt) {
            return nameCharacter(combination.names[pair], k);
        }
        return k == equalsAt ? '=' : nameCharacter(combination.values[pair], k - equalsAt - 1);
    }

    public int step(int i, int step, int k) {
        if (!expansion.has(i) || step < 0 || step >= MAX_STEPS || k < 0) {
            return NONE;
        }
        int first = plan.findStep(jobOf(i).section, step);
        return first == NONE ? NONE : stepCharacter(first, pairsOf(i), k);
    }

    public boolean wants(int i, int outcomes) {
        if (!expansion.has(i)) {
            return false;
        }
        Job asked = jobOf(i);
        if (asked.condition.size > 0) {
            return asked.condition.holds(plan, pairsOf(i), branchName, outcomes);
        }
        for (int n = 0; n < asked.needCount; n++) {
            if (!isOk(plan.jobNamed(asked.needed[n]), outcomes)) {
                return false;
            }
        }
        return true;
    }

    private Job jobOf(int i) {
        return plan.jobs[expansion.jobs[i]];
    }

    /** The COMBINATION of an EXPANDED one, in a row that the next asking fills anew. */
    private Pairs pairsOf(int i) {
        jobOf(i).fillCombination(expansion.codes[i], expansion.combination);
        return expansion.combination;
    }

    private int stepCharacter(int first, Pairs combination, int k) {
        int end = words.lineEnd(first);
        int left = k;
        for (int word = first; word < end; word++) {
            long asked = words.askedName(word);
            long value = combination.valueOf(asked);
            int length = asked == 0 ? words.length(word) : nameLength(value);
            if (left < length) {
                return asked == 0 ? words.character(word, left) : nameCharacter(value, left);
            }
            left -= length;
            if (left == 0) {
                return word + 1 < end ? ' ' : NONE;
            }
            left--;
        }
        return NONE;
    }

    private static boolean isTapeCharacter(int c) {
        return c == '\n' || c >= ' ' && c <= '~';
    }

    private static boolean isOk(int job, int outcomes) {
        return job >= 0 && job < MAX_JOBS && (outcomes >>> 2 * job & 1) != 0;
    }

    private static boolean isBad(int job, int outcomes) {
        return job >= 0 && job < MAX_JOBS && (outcomes >>> 2 * job + 1 & 1) != 0;
    }

    /** The NAME that stands from start up to end, or 0. */
    private static long nameIn(char[] text, int start, int end) {
        if (start < 0 || end > text.length || end <= start || end - start > MAX_NAME) {
            return 0;
        }
        long name = 0;
        for (int at = start; at < end; at++) {
            char c = text[at];
            if (!(c >= 'a' && c <= 'z' || c >= '0' && c <= '9')) {
                return 0;
            }
            name = name << 8 | c;
        }
        return name;
    }

    private static int nameLength(long name) {
        int length = 0;
        for (long rest = name; rest != 0 && length < MAX_NAME; rest >>>= 8) {
            length++;
        }
        return length;
    }

    private static int nameCharacter(long name, int k) {
        int length = nameLength(name);
        return k < 0 || k >= length ? NONE : (int) (name >>> 8 * (length - 1 - k)) & 255;
    }

    /** The text that was read last, cut into its WORDS. */
    private static final class Words {
        private final char[] text = new char[MAX_TAPE];
        private final int[] starts = new int[MAX_WORDS];
        private final int[] ends = new int[MAX_WORDS];
        private final int[] lines = new int[MAX_WORDS];
        // Of a WORD that is a NAME just the name, of a PAIR both, of another neither.
        private final long[] names = new long[MAX_WORDS];
        private final long[] values = new long[MAX_WORDS];
        private int count = 0;

        void cut(char[] from, int size) {
            int end = Math.min(size, Math.min(from.length, MAX_TAPE));
            count = 0;
            int line = 0;
            int start = 0;
            for (int at = 0; at < end; at++) {
                char c = from[at];
                text[at] = c;
                if (c == ' ' || c == '\n') {
                    add(start, at, line);
                    start = at + 1;
                }
                if (c == '\n') {
                    line++;
                }
            }
            add(start, end, line);
        }

        private void add(int start, int end, int line) {
            if (start >= end || count >= MAX_WORDS) {
                return;
            }
            int equalsAt = start;
            while (equalsAt < end && text[equalsAt] != '=') {
                equalsAt++;
            }
            long name = nameIn(text, start, equalsAt);
            long value = nameIn(text, equalsAt + 1, end);
            starts[count] = start;
            ends[count] = end;
            lines[count] = line;
            names[count] = equalsAt == end || value != 0 ? name : 0;
            values[count] = name != 0 ? value : 0;
            count++;
        }

        boolean has(int word) {
            return word >= 0 && word < count;
        }

        boolean is(int word, String due) {
            if (word < 0 || word >= count || ends[word] - starts[word] != due.length()) {
                return false;
            }
            for (int k = 0; k < due.length(); k++) {
                if (text[starts[word] + k] != due.charAt(k)) {
                    return false;
                }
            }
            return true;
        }

        int length(int word) {
            return has(word) ? ends[word] - starts[word] : 0;
        }

        int character(int word, int k) {
            return k < 0 || k >= length(word) ? NONE : text[starts[word] + k];
        }

        /** The NAME that the WORD is, or 0. */
        long name(int word) {
            return has(word) && values[word] == 0 ? names[word] : 0;
        }

        boolean isPair(int word) {
            return has(word) && values[word] != 0;
        }

        /** The NAME for which the WORD asks by $, or 0. */
        long askedName(int word) {
            return has(word) && text[starts[word]] == '$' ? nameIn(text, starts[word] + 1, ends[word]) : 0;
        }

        boolean beginsLine(int word) {
            return has(word) && (word == 0 || lines[word - 1] != lines[word]);
        }

        /** Where the WORDS end that stand in one LINE with the WORD. */
        int lineEnd(int word) {
            if (!has(word)) {
                return word;
            }
            int end = word + 1;
            while (end < count && lines[end] == lines[word]) {
                end++;
            }
            return end;
        }
    }

    /** PAIRS, no NAME twice: of an include, an exclude or a COMBINATION. */
    private static final class Pairs {
        private final long[] names = new long[MAX_PAIRS];
        private final long[] values = new long[MAX_PAIRS];
        private int size = 0;

        boolean add(long name, long value) {
            if (size >= MAX_PAIRS || valueOf(name) != 0) {
                return false;
            }
            names[size] = name;
            values[size] = value;
            size++;
            return true;
        }

        void copy(Pairs from) {
            size = from.size;
            for (int p = 0; p < size; p++) {
                names[p] = from.names[p];
                values[p] = from.values[p];
            }
        }

        /** The VALUE of the NAME, or 0. */
        long valueOf(long name) {
            for (int p = 0; p < size; p++) {
                if (names[p] == name) {
                    return values[p];
                }
            }
            return 0;
        }

        boolean hasAll(Pairs others) {
            for (int p = 0; p < others.size; p++) {
                if (valueOf(others.names[p]) != others.values[p]) {
                    return false;
                }
            }
            return true;
        }

        boolean same(Pairs others) {
            return size == others.size && hasAll(others);
        }
    }

    /** The includes, or the excludes, of a JOB. */
    private static final class PairRows {
        private final Pairs[] rows = new Pairs[MAX_PAIR_ROWS];
        private int size = 0;

        PairRows() {
            for (int r = 0; r < MAX_PAIR_ROWS; r++) {
                rows[r] = new Pairs();
            }
        }

        boolean addRow(Words words, int first, int end) {
            if (size >= MAX_PAIR_ROWS || first >= end) {
                return false;
            }
            Pairs row = rows[size];
            row.size = 0;
            for (int word = first; word < end; word++) {
                if (!words.isPair(word) || !row.add(words.names[word], words.values[word])) {
                    return false;
                }
            }
            size++;
            return true;
        }
    }

    /** An AXIS and its VALUES. */
    private static final class Axis {
        private long name = 0;
        private final long[] values = new long[MAX_VALUES];
        private int size = 0;

        boolean add(long value) {
            if (value == 0 || size >= MAX_VALUES || holds(value)) {
                return false;
            }
            values[size] = value;
            size++;
            return true;
        }

        boolean holds(long value) {
            for (int v = 0; v < size; v++) {
                if (values[v] == value) {
                    return true;
                }
            }
            return false;
        }
    }

    /** What a JOB and a PART have alike: a NAME, STEPS and uses. A PART is no more than this. */
    private static final class Section {
        private long name = 0;
        // The NAME of the PART that is used; 0 for a STEP.
        private final long[] used = new long[MAX_ITEMS];
        private final int[] stepWords = new int[MAX_ITEMS];
        private int size = 0;
        private int stepCount = 0;

        void begin(long newName) {
            name = newName;
            size = 0;
            stepCount = 0;
        }

        boolean addStep(int first, int end) {
            return first < end && end - first <= MAX_STEP_WORDS && add(0, first);
        }

        boolean addUse(long part) {
            return part != 0 && add(part, NONE);
        }

        private boolean add(long part, int first) {
            if (size >= MAX_ITEMS) {
                return false;
            }
            used[size] = part;
            stepWords[size] = first;
            size++;
            return true;
        }
    }

    /** A CONDITION, its askings standing before the not, and, or that joins them, so that it is asked in one pass. */
    private static final class Condition {
        private static final int ALWAYS = 0;
        private static final int OK = 1;
        private static final int BAD = 2;
        private static final int PAIR = 3;
        private static final int NOT = 4;
        private static final int AND = 5;
        private static final int OR = 6;

        private final int[] kinds = new int[MAX_CONDITION_WORDS];
        private final long[] names = new long[MAX_CONDITION_WORDS];
        private final long[] values = new long[MAX_CONDITION_WORDS];
        private int size = 0;
        // How far the reading of the WORDS has come, and where they end.
        private int at = 0;
        private int end = 0;

        boolean fill(Words words, int first, int wordsEnd) {
            if (size > 0 || wordsEnd - first > MAX_CONDITION_WORDS) {
                return false;
            }
            at = first;
            end = wordsEnd;
            return readAny(words, 0) && at == end;
        }

        private boolean readAny(Words words, int depth) {
            if (!readAll(words, depth)) {
                return false;
            }
            while (at < end && words.is(at, "or")) {
                at++;
                if (!readAll(words, depth) || !add(OR, 0, 0)) {
                    return false;
                }
            }
            return true;
        }

        private boolean readAll(Words words, int depth) {
            if (!readNot(words, depth)) {
                return false;
            }
            while (at < end && words.is(at, "and")) {
                at++;
                if (!readNot(words, depth) || !add(AND, 0, 0)) {
                    return false;
                }
            }
            return true;
        }

        private boolean readNot(Words words, int depth) {
            if (at >= end) {
                return false;
            }
            boolean negated = words.is(at, "not");
            if (!negated && !words.is(at, "(")) {
                return readAsking(words);
            }
            if (depth >= MAX_DEPTH) {
                return false;
            }
            at++;
            if (negated) {
                return readNot(words, depth + 1) && add(NOT, 0, 0);
            }
            if (!readAny(words, depth + 1) || at >= end || !words.is(at, ")")) {
                return false;
            }
            at++;
            return true;
        }

        private boolean readAsking(Words words) {
            int word = at;
            at++;
            if (words.isPair(word)) {
                return add(PAIR, words.names[word], words.values[word]);
            }
            if (words.is(word, "always")) {
                return add(ALWAYS, 0, 0);
            }
            boolean ok = words.is(word, "ok");
            if (!ok && !words.is(word, "bad") || at >= end) {
                return false;
            }
            long name = words.name(at);
            at++;
            return name != 0 && add(ok ? OK : BAD, name, 0);
        }

        private boolean add(int kind, long name, long value) {
            if (size >= MAX_CONDITION_WORDS) {
                return false;
            }
            kinds[size] = kind;
            names[size] = name;
            values[size] = value;
            size++;
            return true;
        }

        boolean asksForMissing(Plan plan) {
            for (int a = 0; a < size; a++) {
                if ((kinds[a] == OK || kinds[a] == BAD) && plan.jobNamed(names[a]) == NONE) {
                    return true;
                }
            }
            return false;
        }

        boolean holds(Plan plan, Pairs combination, long branchName, int outcomes) {
            // The answers that wait to be joined, a bit each, the latest lowest: 20 WORDS never fill an int.
            int answers = 0;
            for (int a = 0; a < size; a++) {
                int latest = answers & 1;
                switch (kinds[a]) {
                    case NOT:
                        answers ^= 1;
                        break;
                    case AND:
                        answers = answers >>> 1 & (latest | ~1);
                        break;
                    case OR:
                        answers = answers >>> 1 | latest;
                        break;
                    case PAIR:
                        answers = answers << 1 | (isHad(a, combination, branchName) ? 1 : 0);
                        break;
                    default:
                        answers = answers << 1 | (isOutcome(a, plan, outcomes) ? 1 : 0);
                        break;
                }
            }
            return (answers & 1) != 0;
        }

        private boolean isHad(int a, Pairs combination, long branchName) {
            long value = combination.valueOf(names[a]);
            return values[a] == (value == 0 && names[a] == BRANCH ? branchName : value);
        }

        private boolean isOutcome(int a, Plan plan, int outcomes) {
            if (kinds[a] == ALWAYS) {
                return true;
            }
            int number = plan.jobNamed(names[a]);
            return kinds[a] == OK ? isOk(number, outcomes) : isBad(number, outcomes);
        }
    }

    /** A JOB. */
    private static final class Job {
        private final Section section = new Section();
        private final long[] needed = new long[MAX_NEEDS];
        private int needCount = 0;
        private final Axis[] axes = new Axis[MAX_AXES];
        private int axisCount = 0;
        private final PairRows includes = new PairRows();
        private final PairRows excludes = new PairRows();
        private final Condition condition = new Condition();

        Job() {
            for (int a = 0; a < MAX_AXES; a++) {
                axes[a] = new Axis();
            }
        }

        void begin(long name) {
            section.begin(name);
            needCount = 0;
            axisCount = 0;
            includes.size = 0;
            excludes.size = 0;
            condition.size = 0;
        }

        boolean addNeeds(Words words, int first, int end) {
            for (int word = first; word < end; word++) {
                long name = words.name(word);
                if (name == 0 || needCount >= MAX_NEEDS || isNeeded(name)) {
                    return false;
                }
                needed[needCount] = name;
                needCount++;
            }
            return first < end;
        }

        private boolean isNeeded(long name) {
            for (int n = 0; n < needCount; n++) {
                if (needed[n] == name) {
                    return true;
                }
            }
            return false;
        }

        boolean addAxis(Words words, int first, int end) {
            long name = first < end ? words.name(first) : 0;
            if (name == 0 || end - first < 2 || axisCount >= MAX_AXES || hasAxis(name)) {
                return false;
            }
            Axis axis = axes[axisCount];
            axis.name = name;
            axis.size = 0;
            for (int word = first + 1; word < end; word++) {
                if (!axis.add(words.name(word))) {
                    return false;
                }
            }
            axisCount++;
            return true;
        }

        private boolean hasAxis(long name) {
            for (int a = 0; a < axisCount; a++) {
                if (axes[a].name == name) {
                    return true;
                }
            }
            return false;
        }

        /** How many ways an AXIS has to go: one if it isn't there, so that the others go all the same. */
        int choices(int axis) {
            return axis >= 0 && axis < axisCount ? axes[axis].size : 1;
        }

        /** The COMBINATION of a code: its VALUES' numbers as digits, or MAX_OF_AXES and an include's number. */
        void fillCombination(int code, Pairs combination) {
            combination.size = 0;
            if (code < MAX_OF_AXES) {
                addValue(0, code / (MAX_VALUES * MAX_VALUES), combination);
                addValue(1, code / MAX_VALUES % MAX_VALUES, combination);
                addValue(2, code % MAX_VALUES, combination);
            } else if (code - MAX_OF_AXES < includes.size) {
                combination.copy(includes.rows[code - MAX_OF_AXES]);
            }
        }

        private void addValue(int axis, int value, Pairs combination) {
            if (axis < axisCount && value >= 0 && value < axes[axis].size) {
                combination.add(axes[axis].name, axes[axis].values[value]);
            }
        }

        boolean isExcluded(Pairs combination) {
            for (int e = 0; e < excludes.size; e++) {
                if (combination.hasAll(excludes.rows[e])) {
                    return true;
                }
            }
            return false;
        }

        /** Whether a COMBINATION with the same PAIRS comes before the include. */
        boolean isRepeated(int include) {
            Pairs asked = includes.rows[include];
            for (int i = 0; i < include; i++) {
                if (includes.rows[i].same(asked)) {
                    return true;
                }
            }
            return isOfAxes(asked) && !isExcluded(asked);
        }

        private boolean isOfAxes(Pairs asked) {
            for (int a = 0; a < axisCount; a++) {
                if (!axes[a].holds(asked.valueOf(axes[a].name))) {
                    return false;
                }
            }
            return asked.size == axisCount;
        }
    }

    /** The JOBS and PARTS that there are. */
    private static final class Plan {
        private final Job[] jobs = new Job[MAX_JOBS];
        private int jobCount = 0;
        private final Section[] parts = new Section[MAX_PARTS];
        private int partCount = 0;

        Plan() {
            for (int j = 0; j < MAX_JOBS; j++) {
                jobs[j] = new Job();
            }
            for (int p = 0; p < MAX_PARTS; p++) {
                parts[p] = new Section();
            }
        }

        void clear() {
            jobCount = 0;
            partCount = 0;
        }

        boolean hasJob(int number) {
            return number >= 0 && number < jobCount;
        }

        int jobNamed(long name) {
            for (int j = 0; j < jobCount; j++) {
                if (jobs[j].section.name == name) {
                    return j;
                }
            }
            return NONE;
        }

        int partNamed(long name) {
            for (int p = 0; p < partCount; p++) {
                if (parts[p].name == name) {
                    return p;
                }
            }
            return NONE;
        }

        /** No chain of uses is longer than there are PARTS: after so many rounds every count stands. */
        void countSteps() {
            for (int round = 0; round < partCount; round++) {
                for (int p = 0; p < partCount; p++) {
                    parts[p].stepCount = stepsIn(parts[p]);
                }
            }
        }

        /** How many STEPS it gives; of more than MAX_STEPS just these count. */
        int stepsIn(Section section) {
            int steps = 0;
            for (int item = 0; item < section.size; item++) {
                steps += stepsOf(section, item);
            }
            return Math.min(steps, MAX_STEPS);
        }

        private int stepsOf(Section section, int item) {
            if (section.used[item] == 0) {
                return 1;
            }
            int part = partNamed(section.used[item]);
            return part == NONE ? 0 : parts[part].stepCount;
        }

        /** The first WORD of the STEP with that number, or NONE. */
        int findStep(Section from, int number) {
            Section section = from;
            int left = number;
            for (int depth = 0; depth <= MAX_PARTS; depth++) {
                int item = 0;
                while (item < section.size && left >= stepsOf(section, item)) {
                    left -= stepsOf(section, item);
                    item++;
                }
                if (item >= section.size) {
                    return NONE;
                }
                if (section.used[item] == 0) {
                    return section.stepWords[item];
                }
                int part = partNamed(section.used[item]);
                if (part == NONE) {
                    return NONE;
                }
                section = parts[part];
            }
            return NONE;
        }
    }

    /** READING: a LINE becomes a JOB or a PART, or more of what began last. */
    private static final class Reader {
        // What began last: a JOB and its section, or no JOB and the section of a PART.
        private Job job = null;
        private Section section = null;

        void begin() {
            job = null;
            section = null;
        }

        /** False if the LINE that the WORD begins is ILL. */
        boolean readLine(Words words, Plan plan, int word) {
            int first = word + 1;
            int end = words.lineEnd(word);
            if (words.is(word, "job")) {
                return end - first == 1 && beginJob(plan, words.name(first));
            }
            if (words.is(word, "part")) {
                return end - first == 1 && beginPart(plan, words.name(first));
            }
            if (section == null) {
                return false;
            }
            if (words.is(word, "step")) {
                return section.addStep(first, end);
            }
            if (words.is(word, "use")) {
                return end - first == 1 && section.addUse(words.name(first));
            }
            if (job == null) {
                return false;
            }
            if (words.is(word, "needs")) {
                return job.addNeeds(words, first, end);
            }
            if (words.is(word, "axis")) {
                return job.addAxis(words, first, end);
            }
            if (words.is(word, "include")) {
                return job.includes.addRow(words, first, end);
            }
            if (words.is(word, "exclude")) {
                return job.excludes.addRow(words, first, end);
            }
            return words.is(word, "if") && job.condition.fill(words, first, end);
        }

        private boolean beginJob(Plan plan, long name) {
            if (name == 0 || plan.jobCount >= MAX_JOBS || plan.jobNamed(name) != NONE) {
                return false;
            }
            job = plan.jobs[plan.jobCount];
            job.begin(name);
            section = job.section;
            plan.jobCount++;
            return true;
        }

        private boolean beginPart(Plan plan, long name) {
            if (name == 0 || plan.partCount >= MAX_PARTS || plan.partNamed(name) != NONE) {
                return false;
            }
            job = null;
            section = plan.parts[plan.partCount];
            section.begin(name);
            plan.partCount++;
            return true;
        }
    }

    /** The FAULT of the JOBS and PARTS, and by whom it is told. */
    private static final class Faults {
        // Whom each one reaches by needs or uses, a bit each.
        private final int[] reached = new int[MAX_JOBS];
        private int fault = 0;
        private int culprit = NONE;

        void look(Plan plan) {
            fault = 0;
            culprit = NONE;
            if (tell(1, jobThatAsksForMissing(plan)) || tell(2, sectionThatUsesMissing(plan))) {
                return;
            }
            int part = partThatUsesItself(plan);
            if (!tell(3, part == NONE ? NONE : PART_CULPRIT + part)) {
                tell(4, jobThatNeedsItself(plan));
            }
        }

        private boolean tell(int newFault, int by) {
            if (by == NONE) {
                return false;
            }
            fault = newFault;
            culprit = by;
            return true;
        }

        private static int jobThatAsksForMissing(Plan plan) {
            for (int j = 0; j < plan.jobCount; j++) {
                if (needsMissing(plan, plan.jobs[j]) || plan.jobs[j].condition.asksForMissing(plan)) {
                    return j;
                }
            }
            return NONE;
        }

        private static boolean needsMissing(Plan plan, Job asked) {
            for (int n = 0; n < asked.needCount; n++) {
                if (plan.jobNamed(asked.needed[n]) == NONE) {
                    return true;
                }
            }
            return false;
        }

        private static int sectionThatUsesMissing(Plan plan) {
            for (int j = 0; j < plan.jobCount; j++) {
                if (usesMissing(plan, plan.jobs[j].section)) {
                    return j;
                }
            }
            for (int p = 0; p < plan.partCount; p++) {
                if (usesMissing(plan, plan.parts[p])) {
                    return PART_CULPRIT + p;
                }
            }
            return NONE;
        }

        private static boolean usesMissing(Plan plan, Section section) {
            for (int item = 0; item < section.size; item++) {
                if (section.used[item] != 0 && plan.partNamed(section.used[item]) == NONE) {
                    return true;
                }
            }
            return false;
        }

        private int partThatUsesItself(Plan plan) {
            for (int p = 0; p < plan.partCount; p++) {
                Section part = plan.parts[p];
                reached[p] = 0;
                for (int item = 0; item < part.size; item++) {
                    reached[p] |= bit(part.used[item] == 0 ? NONE : plan.partNamed(part.used[item]));
                }
            }
            return firstThatReachesItself(plan.partCount);
        }

        private int jobThatNeedsItself(Plan plan) {
            for (int j = 0; j < plan.jobCount; j++) {
                Job asked = plan.jobs[j];
                reached[j] = 0;
                for (int n = 0; n < asked.needCount; n++) {
                    reached[j] |= bit(plan.jobNamed(asked.needed[n]));
                }
            }
            return firstThatReachesItself(plan.jobCount);
        }

        private int firstThatReachesItself(int count) {
            for (int by = 0; by < count; by++) {
                for (int from = 0; from < count; from++) {
                    if ((reached[from] & bit(by)) != 0) {
                        reached[from] |= reached[by];
                    }
                }
            }
            for (int one = 0; one < count; one++) {
                if ((reached[one] & bit(one)) != 0) {
                    return one;
                }
            }
            return NONE;
        }

        private static int bit(int number) {
            return number == NONE ? 0 : 1 << number;
        }
    }

    /** The EXPANDED ones: of each its JOB and the code of its COMBINATION. */
    private static final class Expansion {
        private final int[] jobs = new int[MAX_EXPANDED];
        private final int[] codes = new int[MAX_EXPANDED];
        private int size = 0;
        private final Pairs combination = new Pairs();

        boolean has(int i) {
            return i >= 0 && i < size;
        }

        void addJobs(Plan plan) {
            for (int number = 0; number < plan.jobCount; number++) {
                Job job = plan.jobs[number];
                if (job.axisCount > 0 || job.includes.size == 0) {
                    addOfAxes(number, job);
                }
                addIncludes(number, job);
            }
        }

        private void addOfAxes(int number, Job job) {
            for (int first = 0; first < job.choices(0); first++) {
                for (int second = 0; second < job.choices(1); second++) {
                    for (int third = 0; third < job.choices(2); third++) {
                        int code = (first * MAX_VALUES + second) * MAX_VALUES + third;
                        job.fillCombination(code, combination);
                        if (!job.isExcluded(combination)) {
                            add(number, code);
                        }
                    }
                }
            }
        }

        private void addIncludes(int number, Job job) {
            for (int include = 0; include < job.includes.size; include++) {
                if (!job.isRepeated(include)) {
                    add(number, MAX_OF_AXES + include);
                }
            }
        }

        private void add(int number, int code) {
            if (size < MAX_EXPANDED) {
                jobs[size] = number;
                codes[size] = code;
                size++;
            }
        }
    }
}
