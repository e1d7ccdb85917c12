/** Boundary cases of promises 5 and 6: numbers too small and too large, none and the most of each. */
public final class EdgeJobTest {
    private static final int[] FAR = {Integer.MIN_VALUE, Integer.MIN_VALUE + 1, -2, -1, 12, 13, 1 << 16, 1 << 30,
            Integer.MAX_VALUE};

    public static void main(String[] args) {
        noneAndMost();
        noSuchJob();
        anotherWhat();
        ithNeed();
        noSuchNeed();
        needThatIsNotThere();
        Due.end();
    }

    private static void noneAndMost() {
        Due.sentence("Promise 5", "0 how many JOBS it NEEDS, 1 AXES, 2 includes, 3 excludes, 4 STEPS and uses, "
                + "5 whether it has a CONDITION (1, 0)");
        String most = "needs b c d e f g\naxis x 1\naxis y 1\naxis z 1\n" + Due.times("include a=1\nexclude a=1\n", 4)
                + Due.times("step s\nuse p\n", 4) + "if always\n";
        PipelineText x = Due.reading("job a\njob b\n" + most + "job c\n");
        Due.due("none before", Due.counts(x, 0), "0 0 0 0 0 0");
        Due.due("the most", Due.counts(x, 1), "6 3 4 4 8 1");
        Due.due("none behind", Due.counts(x, 2), "0 0 0 0 0 0");
        PipelineText y = Due.reading("job a\nneeds no\njob b\naxis x 1\njob c\ninclude a=1\njob d\nexclude a=1\njob e\n"
                + "step s\njob f\nuse p\njob g\nif bad no");
        String[] want = {"1 0 0 0 0 0", "0 1 0 0 0 0", "0 0 1 0 0 0", "0 0 0 1 0 0", "0 0 0 0 1 0", "0 0 0 0 1 0",
                "0 0 0 0 0 1"};
        for (int j = 0; j < want.length; j++) {
            Due.due("one of a kind, job " + j, Due.counts(y, j), want[j]);
        }
    }

    private static void noSuchJob() {
        Due.sentence("Promise 5", "NONE if there is none such");
        String none = "-1 -1 -1 -1 -1 -1";
        PipelineText x = new PipelineText();
        Due.due("job 0 of none", Due.counts(x, 0), none);
        for (int count = 1; count <= 12; count++) {
            Due.due("read", Due.read(x, Due.numbered("job j#\n", count)), count);
            Due.due("the last of " + count, Due.counts(x, count - 1), "0 0 0 0 0 0");
            Due.due("one more than " + count, Due.counts(x, count), none);
        }
        PipelineText y = Due.reading(Due.numbered("job j#\n", 12) + Due.numbered("part p#\n", 8));
        for (int far : FAR) {
            Due.due("job " + far, Due.counts(y, far), none);
        }
    }

    private static void anotherWhat() {
        Due.sentence("Promise 5", "NONE .. for another what");
        PipelineText x = Due.reading("job a\nneeds a\nif always");
        Due.due("what 0", x.job(0, 0), 1);
        Due.due("what 5", x.job(0, 5), 1);
        Due.due("what -1", x.job(0, -1), -1);
        Due.due("what 6", x.job(0, 6), -1);
        for (int far : FAR) {
            Due.due("what " + far, x.job(0, far), -1);
            Due.due("job and what " + far, x.job(far, far), -1);
        }
    }

    private static void ithNeed() {
        Due.sentence("Promise 6", "The i-th JOB that one NEEDS");
        PipelineText x = Due.reading(Due.numbered("job j#\n", 12) + "needs j10 j0 j11\nneeds j5\nneeds j1 j9");
        int[] want = {10, 0, 11, 5, 1, 9};
        for (int i = 0; i < want.length; i++) {
            Due.due("needs(11, " + i + ")", x.needs(11, i), want[i]);
        }
        Due.due("needs(11, 6)", x.needs(11, 6), -1);
        Due.due("needs(11, -1)", x.needs(11, -1), -1);
    }

    private static void noSuchNeed() {
        Due.sentence("Promise 6", "NONE if there is none such");
        PipelineText x = Due.reading("job a\nneeds b\njob b\njob c\nneeds a b c");
        Due.due("needs(0, 0)", x.needs(0, 0), 1);
        Due.due("needs(0, 1)", x.needs(0, 1), -1);
        Due.due("needs(1, 0) of none", x.needs(1, 0), -1);
        Due.due("needs(2, 2)", x.needs(2, 2), 2);
        Due.due("needs(2, 3)", x.needs(2, 3), -1);
        Due.due("needs(3, 0)", x.needs(3, 0), -1);
        for (int far : FAR) {
            Due.due("needs(0, " + far + ")", x.needs(0, far), -1);
            Due.due("needs(" + far + ", 0)", x.needs(far, 0), -1);
            Due.due("needs(" + far + ", " + far + ")", x.needs(far, far), -1);
        }
        Due.due("needs(0, 0) of a new object", new PipelineText().needs(0, 0), -1);
        Due.due("read of less", Due.read(x, "job a\njob b\njob c\nneeds a"), 3);
        Due.due("needs(0, 0) of less", x.needs(0, 0), -1);
        Due.due("needs(2, 0) of less", x.needs(2, 0), 0);
        Due.due("needs(2, 1) of less", x.needs(2, 1), -1);
    }

    private static void needThatIsNotThere() {
        Due.sentence("Promise 6", "NONE .. or that isn't there");
        PipelineText x = Due.reading("job a\nneeds no a part1\nneeds b\njob b\npart part1\npart no");
        Due.due("how many", x.job(0, 0), 4);
        Due.due("the first isn't there", x.needs(0, 0), -1);
        Due.due("the second is", x.needs(0, 1), 0);
        Due.due("a part isn't a job", x.needs(0, 2), -1);
        Due.due("the last is", x.needs(0, 3), 1);
    }
}
