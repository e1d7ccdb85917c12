import java.util.Map;
import java.util.Random;

/** Made texts, the same every time, most of them well, against the Model; far numbers among the arguments. */
public final class ModelTest {
    private static final int TEXTS = 30000;
    private static final int[] FAR = {Integer.MIN_VALUE, -100, -1, 0, 3, 12, 1000, 1548, Integer.MAX_VALUE};
    private static final Random SOURCE = new Random(20261115);
    private static final MadeTexts MADE = new MadeTexts(SOURCE);
    private static int wellRead = 0;
    private static int withoutFault = 0;
    private static int manyExpanded = 0;

    public static void main(String[] args) {
        PipelineText x = new PipelineText();
        Model model = new Model();
        for (int n = 0; n < TEXTS; n++) {
            if (n % 7 == 0) {
                x = new PipelineText();
                model = new Model();
            }
            oneText(x, model);
        }
        System.out.println(wellRead + " texts were well, " + withoutFault + " without a fault, " + manyExpanded
                + " expanded to more than 9");
        Due.due("enough texts are well", wellRead > TEXTS / 3, true);
        Due.due("enough texts are without a fault", withoutFault > TEXTS / 6, true);
        Due.due("enough texts expand to many", manyExpanded > TEXTS / 60, true);
        Due.end();
    }

    private static int below(int bound) {
        return SOURCE.nextInt(bound);
    }

    private static void oneText(PipelineText x, Model model) {
        String text = MADE.text();
        String told = " of '" + text.replace("\n", "|") + "'";
        int read = model.read(text);
        Due.due("read" + told, Due.read(x, text), read);
        Due.due("check" + told, x.check(), model.fault);
        Due.due("culprit" + told, x.culprit(), model.culprit);
        wellRead += read > 0 ? 1 : 0;
        withoutFault += read > 0 && model.fault == 0 ? 1 : 0;
        compareJobs(x, model, told);
        int bound = below(3) == 0 ? below(8) - 2 : 2000;
        int count = model.expand(bound);
        manyExpanded += count > 9 ? 1 : 0;
        Due.due("expand(" + bound + ")" + told, x.expand(bound), count);
        for (int tries = 0; tries < 2; tries++) {
            branch(x, model);
            for (int i = 0; i < count; i += 1 + below(6)) {
                compareExpanded(x, model, i, told);
            }
        }
        int i = one(FAR);
        int k = one(FAR);
        if (i < 0 || i >= count) {
            Due.due("expanded(" + i + ", 0)" + told, x.expanded(i, 0), -1);
            Due.due("pair(" + i + ", 0, 0)" + told, x.pair(i, 0, 0), -1);
            Due.due("step(" + i + ", 0, 0)" + told, x.step(i, 0, 0), -1);
            Due.due("wants(" + i + ", " + k + ")" + told, x.wants(i, k), false);
        }
        farther(x, i, k);
    }

    private static int one(int[] of) {
        return of[below(of.length)];
    }

    /** Nothing but that no call throws. */
    private static void farther(PipelineText x, int i, int k) {
        x.job(i, k);
        x.needs(i, k);
        x.expanded(i, k);
        x.pair(0, i, k);
        x.pair(0, 0, k);
        x.step(0, i, k);
        x.step(0, 0, k);
        x.wants(i, k);
    }

    private static void branch(PipelineText x, Model model) {
        String tape = MADE.branch();
        model.branch = Model.isName(tape) ? tape : "";
        Due.put(x, tape);
        Due.due("branch of '" + tape + "'", x.branch(), Model.isName(tape));
    }

    private static void compareJobs(PipelineText x, Model model, String told) {
        for (int j = 0; j <= model.jobs.size(); j++) {
            int[] want = {-1, -1, -1, -1, -1, -1, -1};
            if (j < model.jobs.size()) {
                Model.Job job = model.jobs.get(j);
                want = new int[] {job.needs.size(), job.axes.size(), job.includes.size(), job.excludes.size(),
                        job.part.items.size(), job.condition == null ? 0 : 1, -1};
                for (int i = 0; i <= job.needs.size(); i++) {
                    int needed = i < job.needs.size() ? model.jobNamed(job.needs.get(i)) : -1;
                    Due.due("needs(" + j + ", " + i + ")" + told, x.needs(j, i), needed);
                }
            }
            for (int what = 0; what < want.length; what++) {
                Due.due("job(" + j + ", " + what + ")" + told, x.job(j, what), want[what]);
            }
        }
    }

    private static void compareExpanded(PipelineText x, Model model, int i, String told) {
        Model.Expanded want = model.expanded.get(i);
        Due.due("expanded(" + i + ", 0)" + told, x.expanded(i, 0), want.job);
        Due.due("expanded(" + i + ", 1)" + told, x.expanded(i, 1), want.combination.size());
        Due.due("expanded(" + i + ", 2)" + told, x.expanded(i, 2), want.steps.size());
        int p = 0;
        for (Map.Entry<String, String> pair : want.combination.entrySet()) {
            Due.due("pair " + p + " of " + i + told, Due.pair(x, i, p), pair.getKey() + "=" + pair.getValue());
            p++;
        }
        Due.due("pair " + p + " of " + i + told, x.pair(i, p, 0), -1);
        for (int s = 0; s < want.steps.size(); s += 1 + below(1 + s)) {
            Due.due("step " + s + " of " + i + told, Due.step(x, i, s), want.steps.get(s));
        }
        Due.due("a step more of " + i + told, x.step(i, want.steps.size(), 0), -1);
        for (int tries = 0; tries < 4; tries++) {
            int outcomes = SOURCE.nextInt() | (tries == 0 ? 0x555555 : 0);
            Due.due("wants(" + i + ", " + outcomes + ")" + told, x.wants(i, outcomes), model.wants(i, outcomes));
        }
    }
}
