/** Promise 12, and the count of STEPS of promise 10. */
public final class StepTest {
    public static void main(String[] args) {
        values();
        uses();
        manySteps();
        manyEmptyParts();
        wrongNumbers();
        longSteps();
        Due.end();
    }

    private static void dueSteps(PipelineText x, int i, String... want) {
        Due.due("expanded(" + i + ", 2)", x.expanded(i, 2), want.length);
        for (int s = 0; s < want.length; s++) {
            Due.due("step " + s + " of " + i, Due.step(x, i, s), want[s]);
            Due.due("behind step " + s + " of " + i, x.step(i, s, want[s].length()), -1);
        }
        Due.due("a step more of " + i, x.step(i, want.length, 0), -1);
    }

    private static void values() {
        PipelineText x = Due.expanding("job a\naxis os lin mac\naxis v 1 12345678\ninclude v=7 x=y\n"
                + "step   make   $os $v  x$v $os$v\nstep $x\nstep $x $x\nstep $x a $x\nstep $ $A $abcdefghi $os= $$os\n"
                + "step a=$v $0 ~ ( \nstep $v\nstep $branch . $a", 5);
        dueSteps(x, 0, "make lin 1 x$v $os$v", "", " ", " a ", "$ $A $abcdefghi $os= $$os", "a=$v  ~ (", "1", " . ");
        dueSteps(x, 1, "make lin 12345678 x$v $os$v", "", " ", " a ", "$ $A $abcdefghi $os= $$os", "a=$v  ~ (",
                "12345678", " . ");
        dueSteps(x, 2, "make mac 1 x$v $os$v", "", " ", " a ", "$ $A $abcdefghi $os= $$os", "a=$v  ~ (", "1", " . ");
        dueSteps(x, 4, "make  7 x$v $os$v", "y", "y y", "y a y", "$ $A $abcdefghi $os= $$os", "a=$v  ~ (", "7", " . ");
        Due.put(x, "main");
        Due.due("branch", x.branch(), true);
        Due.due("the branch is no value in steps", Due.step(x, 0, 7), " . ");
        PipelineText y = Due.expanding("job a\ninclude branch=b a=c abcdefgh=8\nstep $branch $a $abcdefgh", 1);
        dueSteps(y, 0, "b c 8");
    }

    private static void uses() {
        PipelineText x = Due.expanding("part p\nstep p1 $v\nuse q\nstep p2\npart e\npart q\nstep q1\nuse r\nuse r\n"
                + "job a\nuse e\nuse p\nstep a1\nuse e\nuse q\nstep a2\naxis v 1 2\njob b\njob c\nuse e\njob d\n"
                + "use r\nstep last\npart r\nstep r1 $v .", 5);
        for (int i = 0; i < 2; i++) {
            String v = String.valueOf(i + 1);
            String r = "r1 " + v + " .";
            dueSteps(x, i, "p1 " + v, "q1", r, r, "p2", "a1", "q1", r, r, "a2");
        }
        dueSteps(x, 2);
        dueSteps(x, 3);
        dueSteps(x, 4, "r1  .", "last");
    }

    private static void manySteps() {
        String three = "part a\n" + Due.times("use b\n", 8) + "part b\n" + Due.times("use c\n", 8) + "part c\n";
        String fullC = Due.times("step x\n", 7) + "step y";
        PipelineText x = Due.expanding("job j\nuse a\nuse a\n" + three + fullC, 1);
        Due.due("of 1024 steps", x.expanded(0, 2), 1000);
        Due.due("step 999", Due.step(x, 0, 999), "y");
        Due.due("step 998", Due.step(x, 0, 998), "x");
        Due.due("step 511", Due.step(x, 0, 511), "y");
        Due.due("step 512", Due.step(x, 0, 512), "x");
        Due.due("step 1000", x.step(0, 1000, 0), -1);
        PipelineText y = Due.expanding("job j\nuse a\n" + Due.times("use b\n", 7) + three + fullC, 1);
        Due.due("of 960 steps", y.expanded(0, 2), 960);
        Due.due("step 959", Due.step(y, 0, 959), "y");
        Due.due("step 960", y.step(0, 960, 0), -1);
        exactly(999);
        exactly(1000);
        exactly(1001);
    }

    /** A JOB with so many STEPS, 998 or more, the last one told apart. */
    private static void exactly(int count) {
        String parts = "part p\n" + Due.times("use q\n", 4) + "part q\n" + Due.times("use r\n", 8) + "part r\n"
                + Due.times("use s\n", 6) + "step r\n" + "part s\n" + Due.times("step s\n", 5);
        String job = "job j\nuse p\nuse s\n" + Due.times("step j\n", count - 998) + "step last\n";
        PipelineText x = Due.expanding(job + parts, 1);
        Due.due("of " + count + " steps", x.expanded(0, 2), Math.min(count, 1000));
        Due.due("step 0 of " + count, Due.step(x, 0, 0), "s");
        Due.due("step 991 of " + count, Due.step(x, 0, 991), "r");
        Due.due("the last of " + count, Due.step(x, 0, count - 1), count > 1000 ? "" : "last");
        Due.due("step 1000 of " + count, x.step(0, 1000, 0), -1);
    }

    private static String chain(String last) {
        StringBuilder text = new StringBuilder("job j\n" + Due.times("use a\n", 8));
        for (char part = 'a'; part < 'h'; part++) {
            text.append("part ").append(part).append('\n').append(Due.times("use " + (char) (part + 1) + "\n", 8));
        }
        return text + "part h\n" + last;
    }

    private static void manyEmptyParts() {
        PipelineText none = Due.expanding(chain(""), 1);
        Due.due("of no steps", none.expanded(0, 2), 0);
        Due.due("no step", none.step(0, 0, 0), -1);
        PipelineText most = Due.expanding(chain(Due.times("step x\n", 7) + "step yz"), 1);
        Due.due("of 134217728 steps", most.expanded(0, 2), 1000);
        Due.due("step 999 of them", Due.step(most, 0, 999), "yz");
        Due.due("step 992 of them", Due.step(most, 0, 992), "x");
        Due.due("step 1000 of them", most.step(0, 1000, 0), -1);
        PipelineText behind = Due.expanding(chain("").replace("part b\nuse c\n", "part b\nstep b\n"), 1);
        Due.due("of 64 steps among empty parts", behind.expanded(0, 2), 64);
        Due.due("step 63 among empty parts", Due.step(behind, 0, 63), "b");
    }

    private static void wrongNumbers() {
        PipelineText x = Due.expanding("job a\nstep abc", 1);
        for (int far : new int[] {Integer.MIN_VALUE, -2, -1, 1, 999, 1000, 1001, Integer.MAX_VALUE}) {
            Due.due("step(" + far + ", 0, 0)", x.step(far, 0, 0), -1);
            Due.due("step(0, " + far + ", 0)", x.step(0, far, 0), -1);
            Due.due("step(0, 0, " + far + ")", x.step(0, 0, far), far == 1 ? 'b' : -1);
        }
        Due.due("step(0, 0, 3)", x.step(0, 0, 3), -1);
        PipelineText unexpanded = Due.reading("job a\nstep abc");
        Due.due("step before expand", unexpanded.step(0, 0, 0), -1);
    }

    private static void longSteps() {
        String word = Due.times("W", 600);
        PipelineText x = Due.expanding("job a\nstep " + word + " b", 1);
        dueSteps(x, 0, word + " b");
        PipelineText y = Due.expanding("job a\nstep a b c d e f\n\n" + "step g", 1);
        dueSteps(y, 0, "a b c d e f", "g");
        Due.put(y, "job zz\nstep other");
        Due.due("the tape leaves the steps alone", Due.step(y, 0, 0), "a b c d e f");
    }
}
