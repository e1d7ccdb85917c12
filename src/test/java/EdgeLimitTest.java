/** Boundary cases of what stands in a JOB or a PART, but for conditions: how many of each, and none twice. */
public final class EdgeLimitTest {
    public static void main(String[] args) {
        sixWords();
        useOfOneName();
        eightOfBoth();
        sixNeeds();
        noNeedTwice();
        axisWithValues();
        threeAxes();
        fiveValues();
        noTwoAxesOfOneName();
        noValueTwice();
        pairsAtLeastOne();
        fourOfEach();
        fourPairs();
        noNameTwice();
        Due.end();
    }

    private static void sixWords() {
        Due.sentence("Terms", "step WORD WORD* (at most 6 WORDS): a STEP");
        for (String begin : new String[] {"job a\nstep", "part a\nstep"}) {
            int well = begin.startsWith("job") ? 1 : 0;
            Due.dueRead(begin, -2);
            Due.dueRead(begin + "  ", -2);
            Due.dueRead(begin + " a", well);
            Due.dueRead(begin + " a b c d e", well);
            Due.dueRead(begin + " a b c d e f", well);
            Due.dueRead(begin + " a b c d e f g", -2);
            Due.dueRead(begin + " a  b  c  d  e  f  ", well);
            Due.dueRead(begin + " a b c d e f\nstep g h i j k l", well);
            Due.dueRead(begin + " ~ $ ( ) = Step", well);
        }
        PipelineText x = Due.expanding("job a\nstep a b c d e f\nstep g", 1);
        Due.due("six words", Due.steps(x, 0), "a b c d e f|g");
    }

    private static void useOfOneName() {
        Due.sentence("Terms", "use NAME: the STEPS of that PART");
        for (String begin : new String[] {"job a\nuse", "part a\nuse"}) {
            int well = begin.startsWith("job") ? 1 : 0;
            Due.dueRead(begin, -2);
            Due.dueRead(begin + " b", well);
            Due.dueRead(begin + " b c", -2);
            Due.dueRead(begin + " b b", -2);
        }
        PipelineText x = Due.expanding("job a\nuse e\nuse p\npart e\npart p\nstep one\nstep two", 1);
        Due.due("steps of a part", Due.steps(x, 0), "one|two");
    }

    private static void eightOfBoth() {
        Due.sentence("Terms", "In JOBS and PARTS; at most 8 of both in one");
        for (String begin : new String[] {"job a\n", "part a\n"}) {
            int well = begin.startsWith("job") ? 1 : 0;
            for (String both : new String[] {"step s\n", "use b\n"}) {
                Due.dueRead(begin + Due.times(both, 7), well);
                Due.dueRead(begin + Due.times(both, 8), well);
                Due.dueRead(begin + Due.times(both, 9), -10);
                Due.dueRead(begin + Due.times(both, 7) + "step s\n", well);
                Due.dueRead(begin + Due.times(both, 7) + "use b\n", well);
                Due.dueRead(begin + Due.times(both, 8) + "step s\n", -10);
                Due.dueRead(begin + Due.times(both, 8) + "use b\n", -10);
            }
            Due.dueRead(begin + Due.times("step s\nuse b\n", 4), well);
            Due.dueRead(begin + Due.times("step s\nuse b\n", 4) + "step s", -10);
        }
        String eight = Due.times("step s\n", 7) + "step t\n";
        Due.dueRead("job a\n" + eight + "job b\n" + eight + "part a\n" + eight + "part b\n" + eight, 2);
        Due.dueRead("job a\n" + eight + "job b\n" + eight + "part a\n" + eight + "part b\n" + eight + "use a", -37);
        PipelineText x = Due.expanding("job a\n" + eight + "job b\n" + Due.times("use p\n", 8) + "part p\nstep u", 2);
        Due.due("how many", x.job(0, 4) * 10 + x.job(1, 4), 88);
        Due.due("eight steps", Due.steps(x, 0), "s|s|s|s|s|s|s|t");
        Due.due("eight uses", Due.steps(x, 1), "u|u|u|u|u|u|u|u");
    }

    private static void sixNeeds() {
        Due.sentence("Terms", "needs NAME NAME*: JOBS (at most 6 in all");
        Due.dueRead("job a\nneeds", -2);
        Due.dueRead("job a\nneeds b", 1);
        Due.dueRead("job a\nneeds b c d e f", 1);
        Due.dueRead("job a\nneeds b c d e f g", 1);
        Due.dueRead("job a\nneeds b c d e f g h", -2);
        Due.dueRead("job a\nneeds b c d e f\nneeds g", 1);
        Due.dueRead("job a\nneeds b c d e f\nneeds g h", -3);
        Due.dueRead("job a\nneeds b c d e f g\nneeds h", -3);
        Due.dueRead("job a\n" + Due.numbered("needs b#\n", 6), 1);
        Due.dueRead("job a\n" + Due.numbered("needs b#\n", 7), -8);
        Due.dueRead("job a\nneeds b c d e f g\njob b\nneeds b c d e f g", 2);
        PipelineText x = Due.reading("job a\nneeds b f d\nneeds c e a\n" + "job b\njob c\njob d\njob e\njob f");
        int[] want = {1, 5, 3, 2, 4, 0, -1};
        for (int i = 0; i < want.length; i++) {
            Due.due("needs(0, " + i + ")", x.needs(0, i), want[i]);
        }
    }

    private static void noNeedTwice() {
        Due.sentence("Terms", "needs .. none twice");
        Due.dueRead("job a\nneeds b b", -2);
        Due.dueRead("job a\nneeds b c d e f b", -2);
        Due.dueRead("job a\nneeds b c d e f f", -2);
        Due.dueRead("job a\nneeds b\nneeds b", -3);
        Due.dueRead("job a\nneeds b c d\nneeds e f d", -3);
        Due.dueRead("job a\nneeds b bb bbb", 1);
        Due.dueRead("job a\nneeds b\njob c\nneeds b", 2);
    }

    private static void axisWithValues() {
        Due.sentence("Terms", "axis NAME NAME NAME*: an AXIS with VALUES");
        Due.dueRead("job a\naxis", -2);
        Due.dueRead("job a\naxis x", -2);
        Due.dueRead("job a\naxis x 1", 1);
        Due.dueRead("job a\naxis x x", 1);
        Due.dueRead("job a\naxis x 1 2", 1);
        Due.dueRead("job a\naxis x=1", -2);
        Due.dueRead("job a\naxis x 1=2", -2);
        Due.dueCombinations("job a\naxis x 1", "0:x=1");
    }

    private static void threeAxes() {
        Due.sentence("Terms", "at most 3 AXES");
        Due.dueRead("job a\naxis x 1\naxis y 1", 1);
        Due.dueRead("job a\naxis x 1\naxis y 1\naxis z 1", 1);
        Due.dueRead("job a\naxis x 1\naxis y 1\naxis z 1\naxis w 1", -5);
        Due.dueRead("job a\naxis x 1\naxis y 1\naxis z 1\njob b\naxis x 1\naxis y 1\naxis z 1", 2);
        Due.dueCombinations("job a\naxis x 1\naxis y 2\naxis z 3", "0:x=1 y=2 z=3");
    }

    private static void fiveValues() {
        Due.sentence("Terms", "5 VALUES each");
        for (String before : new String[] {"job a\n", "job a\naxis m 1 2 3 4 5\n",
                "job a\naxis m 1 2 3 4 5\naxis n 1 2 3 4 5\n"}) {
            int ill = -1 - (int) before.chars().filter(c -> c == '\n').count();
            Due.dueRead(before + "axis x 1 2 3 4", 1);
            Due.dueRead(before + "axis x 1 2 3 4 5", 1);
            Due.dueRead(before + "axis x 1 2 3 4 5 6", ill);
        }
        Due.dueCombinations("job a\naxis x 5 4 3 2 1", "0:x=5, 0:x=4, 0:x=3, 0:x=2, 0:x=1");
    }

    private static void noTwoAxesOfOneName() {
        Due.sentence("Terms", "no two AXES of one NAME");
        Due.dueRead("job a\naxis x 1\naxis x 2", -3);
        Due.dueRead("job a\naxis x 1\naxis y 1\naxis x 2", -4);
        Due.dueRead("job a\naxis x 1\naxis y 1\naxis y 1", -4);
        Due.dueRead("job a\naxis x 1\naxis xx 1\naxis xxx 1", 1);
        Due.dueRead("job a\naxis x 1\njob b\naxis x 1", 2);
        Due.dueRead("job a\naxis x y\naxis y x", 1);
    }

    private static void noValueTwice() {
        Due.sentence("Terms", "no VALUE twice in one");
        Due.dueRead("job a\naxis x 1 1", -2);
        Due.dueRead("job a\naxis x 1 2 3 4 1", -2);
        Due.dueRead("job a\naxis x 1 2 3 4 4", -2);
        Due.dueRead("job a\naxis x 1 11 111", 1);
        Due.dueRead("job a\naxis x 1 2\naxis y 1 2", 1);
        Due.dueRead("job a\naxis x 1 2\naxis y 2 3 2", -3);
    }

    private static void pairsAtLeastOne() {
        Due.sentence("Terms", "include PAIR PAIR*, exclude PAIR PAIR*");
        for (String row : new String[] {"include", "exclude"}) {
            Due.dueRead("job a\n" + row, -2);
            Due.dueRead("job a\n" + row + " a=1", 1);
            Due.dueRead("job a\n" + row + " a=1 b=2", 1);
            Due.dueRead("job a\n" + row + " a=1 b", -2);
            Due.dueRead("job a\n" + row + " a a=1", -2);
        }
    }

    private static void fourOfEach() {
        Due.sentence("Terms", "at most 4 each");
        for (String row : new String[] {"include", "exclude"}) {
            Due.dueRead("job a\n" + Due.numbered(row + " a=#\n", 3), 1);
            Due.dueRead("job a\n" + Due.numbered(row + " a=#\n", 4), 1);
            Due.dueRead("job a\n" + Due.numbered(row + " a=#\n", 5), -6);
            Due.dueRead("job a\n" + Due.times(row + " a=1\n", 4), 1);
            Due.dueRead("job a\n" + Due.times(row + " a=1\n", 5), -6);
        }
        Due.dueRead("job a\n" + Due.numbered("include a=#\nexclude a=#\n", 4), 1);
        Due.dueRead("job a\n" + Due.numbered("include a=#\nexclude a=#\n", 4) + "include b=1", -10);
        Due.dueRead("job a\n" + Due.numbered("include a=#\nexclude a=#\n", 4) + "exclude b=1", -10);
        Due.dueRead("job a\n" + Due.numbered("include a=#\n", 4) + "job b\n" + Due.numbered("include a=#\n", 4), 2);
        Due.dueCombinations("job a\n" + Due.numbered("include a=#\n", 4), "0:a=0, 0:a=1, 0:a=2, 0:a=3");
        Due.dueCombinations("job a\naxis x 0 1 2 3 4\n" + Due.numbered("exclude x=#\n", 4), "0:x=4");
    }

    private static void fourPairs() {
        Due.sentence("Terms", "with at most 4 PAIRS each");
        for (String row : new String[] {"include", "exclude"}) {
            Due.dueRead("job a\n" + row + " a=1 b=1 c=1", 1);
            Due.dueRead("job a\n" + row + " a=1 b=1 c=1 d=1", 1);
            Due.dueRead("job a\n" + row + " a=1 b=1 c=1 d=1 e=1", -2);
            Due.dueRead("job a\n" + Due.times(row + " a=1 b=1 c=1 d=1\n", 4), 1);
        }
        Due.dueCombinations("job a\ninclude d=1 c=2 b=3 a=4", "0:d=1 c=2 b=3 a=4");
    }

    private static void noNameTwice() {
        Due.sentence("Terms", "(no NAME twice in one)");
        for (String row : new String[] {"include", "exclude"}) {
            Due.dueRead("job a\n" + row + " a=1 a=1", -2);
            Due.dueRead("job a\n" + row + " a=1 a=2", -2);
            Due.dueRead("job a\n" + row + " a=1 b=1 c=1 a=2", -2);
            Due.dueRead("job a\n" + row + " a=1 b=1 c=1 c=2", -2);
            Due.dueRead("job a\n" + row + " a=1 aa=1 b=a", 1);
            Due.dueRead("job a\n" + row + " a=b b=a", 1);
            Due.dueRead("job a\n" + row + " a=1\n" + row + " a=2", 1);
            Due.dueRead("job a\n" + row + " a=1\n" + row + " a=1", 1);
        }
        Due.dueRead("job a\ninclude a=1\nexclude a=1", 1);
    }
}
