/** Promises 5 and 6: job, needs. */
public final class JobTest {
    private static final int[] FAR = {Integer.MIN_VALUE, -13, -2, -1, 12, 13, 100, Integer.MAX_VALUE};

    public static void main(String[] args) {
        counts();
        most();
        needs();
        Due.end();
    }

    private static void dueCounts(PipelineText x, int job, int... want) {
        for (int what = 0; what < want.length; what++) {
            Due.due("job(" + job + ", " + what + ")", x.job(job, what), want[what]);
        }
        for (int what : new int[] {Integer.MIN_VALUE, -1, 6, 7, Integer.MAX_VALUE}) {
            Due.due("job(" + job + ", " + what + ")", x.job(job, what), -1);
        }
    }

    private static void counts() {
        PipelineText x = Due.reading("job a\nneeds b c\nneeds d\naxis x 1 2\ninclude x=1 y=2\ninclude y=1\n"
                + "include z=1\nexclude x=1\nexclude x=2\nstep a\nuse p\nstep b\nuse p\nstep c\nif always\n"
                + "part p\nstep d\njob b\njob c\nneeds a\naxis u 1\naxis v 1\nexclude a=b");
        dueCounts(x, 0, 3, 1, 3, 2, 5, 1);
        dueCounts(x, 1, 0, 0, 0, 0, 0, 0);
        dueCounts(x, 2, 1, 2, 0, 1, 0, 0);
        dueCounts(x, 3, -1, -1, -1, -1, -1, -1);
        for (int far : FAR) {
            dueCounts(x, far, -1, -1, -1, -1, -1, -1);
        }
    }

    private static void most() {
        PipelineText x = Due.reading("job a\nneeds b c d e f g\naxis x 1 2 3 4 5\naxis y 1\naxis z 1\n"
                + Due.times("include a=1 b=1 c=1 d=1\nexclude a=1 b=1 c=1 d=1\n", 4) + Due.times("use p\n", 8)
                + "if " + Due.times("ok a or ", 6) + "bad a");
        dueCounts(x, 0, 6, 3, 4, 4, 8, 1);
    }

    private static void needs() {
        PipelineText x = Due.reading("job a\nneeds c zz a\nneeds b yy\njob b\njob c\nneeds a\npart zz\npart yy");
        int[] want = {2, -1, 0, 1, -1, -1, -1};
        for (int i = 0; i < want.length; i++) {
            Due.due("needs(0, " + i + ")", x.needs(0, i), want[i]);
        }
        Due.due("job(0, 0) counts those that aren't there", x.job(0, 0), 5);
        Due.due("needs(1, 0)", x.needs(1, 0), -1);
        Due.due("needs(2, 0)", x.needs(2, 0), 0);
        Due.due("needs(3, 0)", x.needs(3, 0), -1);
        for (int far : FAR) {
            Due.due("needs(0, " + far + ")", x.needs(0, far), -1);
            Due.due("needs(" + far + ", 0)", x.needs(far, 0), -1);
            Due.due("needs(" + far + ", " + far + ")", x.needs(far, far), -1);
        }
        Due.due("read of others", Due.read(x, "job a\nneeds b a\njob b"), 2);
        Due.due("needs(0, 1) of others", x.needs(0, 1), 0);
        Due.due("read of less", Due.read(x, "job a\nneeds a"), 1);
        Due.due("needs(0, 0) anew", x.needs(0, 0), 0);
        Due.due("needs(0, 1) went", x.needs(0, 1), -1);
        Due.due("needs(2, 0) went", x.needs(2, 0), -1);
    }
}
