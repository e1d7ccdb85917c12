/** Boundary cases of STEPS: the Terms on them, the thousand of promise 10, and promise 12. */
public final class EdgeStepTest {
    private static final int[] FAR = {Integer.MIN_VALUE, Integer.MIN_VALUE + 1, -2, -1, 1000, 1548, 1 << 16, 1 << 30,
            Integer.MAX_VALUE};

    public static void main(String[] args) {
        usesWithTheirs();
        valuesPutIn();
        emptyWords();
        oneBlankBetween();
        firstThousand();
        characters();
        noneSuch();
        Due.end();
    }

    private static void dueSteps(String text, String want) {
        PipelineText x = Due.reading(text);
        Due.due("expand", x.expand(1), 1);
        Due.due("steps of '" + text.replace("\n", "/") + "'", Due.steps(x, 0), want);
    }

    private static void usesWithTheirs() {
        Due.sentence("Terms", "its JOB's, in order, a use giving those of its PART, with theirs");
        dueSteps("job a", "");
        dueSteps("job a\nuse p\npart p", "");
        dueSteps("job a\nuse p\nuse p\nstep a\npart p", "a");
        dueSteps("job a\nstep a\nuse p\nstep b\nuse p\npart p\nstep c\nstep d", "a|c|d|b|c|d");
        dueSteps("part q\nstep q\npart p\nuse q\nstep p\nuse q\njob a\nuse p\nstep a", "q|p|q|a");
        StringBuilder chain = new StringBuilder("job a\nuse p0\nstep a\n");
        for (int p = 0; p < 8; p++) {
            chain.append("part p").append(p).append("\nstep b").append(p);
            chain.append(p < 7 ? "\nuse p" + (p + 1) : "").append("\nstep e").append(p).append('\n');
        }
        dueSteps(chain.toString(), "b0|b1|b2|b3|b4|b5|b6|b7|e7|e6|e5|e4|e3|e2|e1|e0|a");
        PipelineText x = Due.expanding(chain.toString(), 1);
        Due.due("how many steps through eight parts", x.expanded(0, 2), 17);
        Due.due("none behind them", x.step(0, 17, 0), -1);
    }

    private static void valuesPutIn() {
        Due.sentence("Terms", "a WORD that is $ and a NAME becomes the VALUE of that NAME in the COMBINATION");
        String job = "job j\ninclude a=b b=1 abcdefgh=12345678 abcdefg=7\nstep ";
        dueSteps(job + "$a", "b");
        dueSteps(job + "$abcdefgh", "12345678");
        dueSteps(job + "$abcdefg $abcdef", "7 ");
        dueSteps(job + "$a $b $a $b $a $b", "b 1 b 1 b 1");
        dueSteps(job + "$", "$");
        dueSteps(job + "$$ $$a", "$$ $$a");
        dueSteps(job + "a $a a$a $a$a $a=b a=$a", "a b a$a $a$a $a=b a=$a");
        dueSteps(job + "$abcdefghi $A $aB $( $a-", "$abcdefghi $A $aB $( $a-");
        dueSteps(job + "$` ${ $/ $: $@ $[", "$` ${ $/ $: $@ $[");
        PipelineText x = Due.expanding("job a\naxis x 1 22\naxis y 333\nuse p\npart p\nstep $x.$y $x $y .", 2);
        Due.due("steps of the first", Due.steps(x, 0), "$x.$y 1 333 .");
        Due.due("steps of the second", Due.steps(x, 1), "$x.$y 22 333 .");
    }

    private static void emptyWords() {
        Due.sentence("Terms", "or nothing (an empty WORD)");
        dueSteps("job a\nstep $x", "");
        dueSteps("job a\nstep $x\nstep b", "|b");
        dueSteps("job a\nstep $x $x", " ");
        dueSteps("job a\nstep $1 $2 $3 $4 $5 $6", "     ");
        dueSteps("job a\nstep $x b", " b");
        dueSteps("job a\nstep b $x", "b ");
        dueSteps("job a\nstep b $x c", "b  c");
        dueSteps("job a\nstep $a $j $branch .", "   .");
        dueSteps("job a\naxis x 1\nstep $x $xx $1", "1  ");
        PipelineText x = Due.expanding("job a\nstep $x", 1);
        Due.due("a step of nothing is there", x.expanded(0, 2), 1);
        Due.due("it has no character", x.step(0, 0, 0), -1);
        PipelineText y = new PipelineText();
        Due.put(y, "main");
        Due.due("branch", y.branch(), true);
        Due.due("read", Due.read(y, "job a\nstep $branch."), 1);
        Due.due("expand", y.expand(1), 1);
        Due.due("no NAME behind $", Due.steps(y, 0), "$branch.");
        Due.due("read", Due.read(y, "job a\nstep x $branch"), 1);
        Due.due("expand", y.expand(1), 1);
        Due.due("the branch is in no combination", Due.steps(y, 0), "x ");
    }

    private static void oneBlankBetween() {
        Due.sentence("Terms", "WORDS are told with one blank between");
        dueSteps("job a\nstep a", "a");
        dueSteps("job a\nstep   a  ", "a");
        dueSteps("job a\nstep a b", "a b");
        dueSteps("job a\n  step  a   b    c  d e     f   \n", "a b c d e f");
        PipelineText x = Due.expanding("job a\nstep a   b", 1);
        Due.due("the blank", x.step(0, 0, 1), ' ');
        Due.due("behind it", x.step(0, 0, 2), 'b');
        Due.due("none behind the last word", x.step(0, 0, 3), -1);
        behindTheLast();
    }

    /** Behind a STEP nothing is told of what stands behind it in the text. */
    private static void behindTheLast() {
        PipelineText x = Due.expanding("job a\naxis v 1\nstep a b\nstep $v $w\nstep c $v\nstep $u\n\nstep d\nneeds b\n"
                + "job b\nstep e", 2);
        String[] steps = {"a b", "1 ", "c 1", "", "d"};
        for (int s = 0; s < steps.length; s++) {
            for (int more = 0; more < 12; more++) {
                Due.due("character " + more + " behind step " + s, x.step(0, s, steps[s].length() + more), -1);
            }
        }
        Due.due("behind the text's last step", x.step(1, 0, 1), -1);
        Due.due("farther behind it", x.step(1, 0, 2), -1);
    }

    /** A text of one JOB with so many STEPS, from 998 to 1004, its own last ones m, the very last one l. */
    private static String jobOfSteps(int count) {
        // 4 * 8 * (6 * 5 + 1) = 992 by p, 5 more by s.
        return "job j\nuse p\nuse s\n" + Due.times("step m\n", count - 998) + "step l\n"
                + "part p\n" + Due.times("use q\n", 4) + "part q\n" + Due.times("use r\n", 8)
                + "part r\n" + Due.times("use s\n", 6) + "step r\npart s\n" + Due.times("step s\n", 5);
    }

    private static void firstThousand() {
        Due.sentence("Promise 10", "of more than 1000 just the first 1000 are there");
        for (int count = 998; count <= 1003; count++) {
            PipelineText x = Due.expanding(jobOfSteps(count), 1);
            Due.due("how many of " + count, x.expanded(0, 2), Math.min(count, 1000));
            Due.due("step 996 of " + count, x.step(0, 996, 0), 's');
            for (int s = 997; s <= 1003; s++) {
                int want = s >= count || s >= 1000 ? -1 : s == count - 1 ? 'l' : 'm';
                Due.due("step " + s + " of " + count, x.step(0, s, 0), want);
            }
        }
        StringBuilder most = new StringBuilder("job j\n" + Due.times("use a\n", 8));
        for (char part = 'a'; part < 'h'; part++) {
            most.append("part ").append(part).append('\n').append(Due.times("use " + (char) (part + 1) + "\n", 8));
        }
        PipelineText y = Due.expanding(most + "part h\n" + Due.times("step x\n", 7) + "step y", 1);
        Due.due("how many of 134217728", y.expanded(0, 2), 1000);
        Due.due("step 999", y.step(0, 999, 0), 'y');
        Due.due("step 998", y.step(0, 998, 0), 'x');
        Due.due("step 1000", y.step(0, 1000, 0), -1);
        PipelineText none = Due.expanding(most + "part h", 1);
        Due.due("how many of none", none.expanded(0, 2), 0);
        Due.due("step 0 of none", none.step(0, 0, 0), -1);
    }

    private static void characters() {
        Due.sentence("Promise 12", "A character of a STEP of an EXPANDED one");
        PipelineText x = Due.expanding("job a\nstep " + Due.times("y", 688) + "z", 1);
        Due.due("the first of the longest", x.step(0, 0, 0), 'y');
        Due.due("the last but one", x.step(0, 0, 687), 'y');
        Due.due("the last", x.step(0, 0, 688), 'z');
        Due.due("behind it", x.step(0, 0, 689), -1);
        String told = "!\"#%&'()*+,-./0123456789:;<=>?@ABCXYZ[\\]^_`abcxyz{|}~";
        dueSteps("job a\nstep " + told, told);
        PipelineText y = Due.expanding("job a\ninclude v=12345678\nstep $v $v $v $v $v $v", 1);
        Due.due("the last of six values", y.step(0, 0, 52), '8');
        Due.due("behind them", y.step(0, 0, 53), -1);
    }

    private static void noneSuch() {
        Due.sentence("Promise 12", "NONE if there is none");
        PipelineText x = Due.reading("job a\naxis x 1 2\nstep ab\nstep $x\njob b");
        Due.due("step before expand", x.step(0, 0, 0), -1);
        Due.due("expand", x.expand(3), 3);
        Due.due("step(-1, 0, 0)", x.step(-1, 0, 0), -1);
        Due.due("step(0, 0, 0)", x.step(0, 0, 0), 'a');
        Due.due("step(1, 1, 0)", x.step(1, 1, 0), '2');
        Due.due("step(2, 0, 0) of no steps", x.step(2, 0, 0), -1);
        Due.due("step(3, 0, 0)", x.step(3, 0, 0), -1);
        Due.due("step(0, -1, 0)", x.step(0, -1, 0), -1);
        Due.due("step(0, 2, 0)", x.step(0, 2, 0), -1);
        Due.due("step(0, 0, -1)", x.step(0, 0, -1), -1);
        Due.due("step(0, 0, 1)", x.step(0, 0, 1), 'b');
        Due.due("step(0, 0, 2)", x.step(0, 0, 2), -1);
        Due.due("step(0, 1, 1)", x.step(0, 1, 1), -1);
        for (int far : FAR) {
            Due.due("step(" + far + ", 0, 0)", x.step(far, 0, 0), -1);
            Due.due("step(0, " + far + ", 0)", x.step(0, far, 0), -1);
            Due.due("step(0, 0, " + far + ")", x.step(0, 0, far), -1);
            Due.due("step of " + far + " thrice", x.step(far, far, far), -1);
        }
    }
}
