import java.util.ArrayList;
import java.util.List;
import java.util.Map;
import java.util.Random;

/** Runs of up to 512 calls in any order on a new object, the same every time, each against the Model. */
public final class RunTest {
    private static final int RUNS = 2000;
    private static final int CALLS = 512;
    private static final int[] FAR = {Integer.MIN_VALUE, Integer.MIN_VALUE + 1, -1000, -2, -1, 12, 13, 100, 999, 1000,
            1001, 1548, 1 << 16, 1 << 30, Integer.MAX_VALUE - 1, Integer.MAX_VALUE};

    private static final Random SOURCE = new Random(20261116);
    private static final MadeTexts MADE = new MadeTexts(SOURCE);
    private static int calls = 0;
    private static int told = 0;

    private final PipelineText x = new PipelineText();
    private final Model model = new Model();
    private final StringBuilder tape = new StringBuilder();
    // What is yet to come onto the TAPE before the next READING.
    private String coming = "";
    private final String run;
    private int made = 0;

    private RunTest(int number) {
        run = "run " + number + ", call ";
    }

    public static void main(String[] args) {
        for (int run = 0; run < RUNS; run++) {
            new RunTest(run).allCalls();
        }
        System.out.println(calls + " calls, " + told + " of them told characters or that one wants to run");
        Due.due("enough calls told something", told > calls / 50, true);
        Due.end();
    }

    private static int below(int bound) {
        return SOURCE.nextInt(bound);
    }

    /** A number from 0 up to a count, sometimes a far one. */
    private static int about(int count) {
        return below(12) == 0 ? FAR[below(FAR.length)] : below(count + 1) - (below(20) == 0 ? 1 : 0);
    }

    private void allCalls() {
        // A round makes up to two calls, and an object is used for no more than 512.
        while (made + 2 <= CALLS) {
            if (!coming.isEmpty()) {
                moreOfText();
            } else if (model.expanded.isEmpty() && below(4) == 0) {
                towardsExpanded();
            } else {
                oneCall();
            }
        }
        calls += made;
    }

    /** With just any calls most runs would stay without EXPANDED ones. */
    private void towardsExpanded() {
        if (model.fault == 0 && !model.jobs.isEmpty()) {
            dueExpand();
        } else {
            beginText();
        }
    }

    private void beginText() {
        if (tape.length() > 0 && below(6) != 0) {
            dueBranch();
        }
        coming = MADE.text();
    }

    /** Where a call stands, for the telling of a wrong answer; every call of the object is counted here. */
    private String next() {
        made++;
        return run + made + ": ";
    }

    private void moreOfText() {
        int count = Math.min(coming.length(), below(6) == 0 ? below(8) : 8);
        String some = coming.substring(0, count);
        coming = coming.substring(count);
        dueText(spread(some));
        if (coming.isEmpty() && below(8) != 0) {
            dueRead();
        }
    }

    /** The characters as a number, with the 0 bytes that are left anywhere among them. */
    private static long spread(String some) {
        long w = 0;
        int zeros = 8 - some.length();
        for (int k = 0; k < some.length(); k++) {
            int skipped = below(zeros + 1);
            zeros -= skipped;
            w = w << 8 * skipped << 8 | some.charAt(k);
        }
        return some.isEmpty() ? 0 : w << 8 * below(zeros + 1);
    }

    private void dueText(long w) {
        StringBuilder some = new StringBuilder();
        boolean can = true;
        for (int n = 7; n >= 0; n--) {
            int c = (int) (w >> 8 * n & 255);
            if (c != 0) {
                some.append((char) c);
                can = can && (c == 10 || c >= 32 && c <= 126);
            }
        }
        can = can && tape.length() + some.length() <= 700;
        if (can) {
            tape.append(some);
        }
        Due.due(next() + "text(" + w + ")", x.text(w), can);
    }

    private void dueRead() {
        int want = model.read(tape.toString());
        Due.due(next() + "read of '" + tape.toString().replace("\n", "|") + "'", x.read(), want);
        tape.setLength(0);
    }

    private void dueBranch() {
        String asked = tape.toString();
        model.branch = Model.isName(asked) ? asked : "";
        tape.setLength(0);
        Due.due(next() + "branch of '" + asked + "'", x.branch(), Model.isName(asked));
    }

    private void oneCall() {
        switch (below(40)) {
            case 0:
                beginText();
                break;
            case 1:
                dueText(below(3) == 0 ? SOURCE.nextLong() : Due.packed(MADE.branch()));
                break;
            case 2:
                if (below(10) == 0) {
                    dueRead();
                }
                break;
            case 3:
            case 4:
                if (tape.length() == 0) {
                    dueText(Due.packed(MADE.branch().substring(0, 1)));
                }
                dueBranch();
                break;
            case 5:
            case 6:
            case 7:
                dueExpand();
                break;
            case 8:
                Due.due(next() + "check", x.check(), model.fault);
                break;
            case 9:
                Due.due(next() + "culprit", x.culprit(), model.fault == 0 ? -1 : model.culprit);
                break;
            case 10:
            case 11:
            case 12:
                dueJob(about(model.jobs.size()), about(6));
                break;
            case 13:
            case 14:
                dueNeeds(about(model.jobs.size()), about(6));
                break;
            default:
                dueOfExpanded(about(model.expanded.size()));
                break;
        }
    }

    private void dueExpand() {
        int bound = below(3) == 0 ? about(8) : 2000;
        Due.due(next() + "expand(" + bound + ")", x.expand(bound), model.expand(bound));
    }

    private void dueJob(int j, int what) {
        int want = -1;
        if (j >= 0 && j < model.jobs.size() && what >= 0 && what <= 5) {
            Model.Job job = model.jobs.get(j);
            want = new int[] {job.needs.size(), job.axes.size(), job.includes.size(), job.excludes.size(),
                    job.part.items.size(), job.condition == null ? 0 : 1}[what];
        }
        Due.due(next() + "job(" + j + ", " + what + ")", x.job(j, what), want);
    }

    private void dueNeeds(int j, int i) {
        int want = -1;
        if (j >= 0 && j < model.jobs.size() && i >= 0 && i < model.jobs.get(j).needs.size()) {
            want = model.jobNamed(model.jobs.get(j).needs.get(i));
        }
        Due.due(next() + "needs(" + j + ", " + i + ")", x.needs(j, i), want);
    }

    private void dueOfExpanded(int i) {
        Model.Expanded one = i >= 0 && i < model.expanded.size() ? model.expanded.get(i) : null;
        switch (below(4)) {
            case 0:
                int what = about(3);
                Due.due(next() + "expanded(" + i + ", " + what + ")", x.expanded(i, what), number(one, what));
                break;
            case 1:
                List<String> pairs = pairs(one);
                int pair = about(pairs.size());
                int k = about(12);
                due(next() + "pair(" + i + ", " + pair + ", " + k + ")", x.pair(i, pair, k), pairs, pair, k);
                break;
            case 2:
                List<String> steps = one == null ? List.of() : one.steps;
                int step = about(steps.size());
                int c = about(12);
                due(next() + "step(" + i + ", " + step + ", " + c + ")", x.step(i, step, c), steps, step, c);
                break;
            default:
                int outcomes = SOURCE.nextInt() | (below(3) == 0 ? 0x555555 : 0);
                boolean want = model.wants(i, outcomes);
                told += want ? 1 : 0;
                Due.due(next() + "wants(" + i + ", " + outcomes + ")", x.wants(i, outcomes), want);
                break;
        }
    }

    private static int number(Model.Expanded one, int what) {
        if (one == null || what < 0 || what > 2) {
            return -1;
        }
        return what == 0 ? one.job : what == 1 ? one.combination.size() : one.steps.size();
    }

    private static List<String> pairs(Model.Expanded one) {
        List<String> pairs = new ArrayList<>();
        if (one != null) {
            for (Map.Entry<String, String> pair : one.combination.entrySet()) {
                pairs.add(pair.getKey() + "=" + pair.getValue());
            }
        }
        return pairs;
    }

    private static void due(String call, int got, List<String> texts, int text, int k) {
        int want = -1;
        if (text >= 0 && text < texts.size() && k >= 0 && k < texts.get(text).length()) {
            want = texts.get(text).charAt(k);
            told++;
        }
        Due.due(call, got, want);
    }
}
