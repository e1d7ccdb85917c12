/** Boundary cases of COMBINATIONS and EXPANDED ones: the Terms, and promises 9, 10 and 11. */
public final class EdgeExpandTest {
    private static final int[] FAR = {Integer.MIN_VALUE, Integer.MIN_VALUE + 1, -126, -2, -1, 1548, 1 << 16, 1 << 30,
            Integer.MAX_VALUE};
    private static final String TWO_BY_TWO = "job a\naxis x 1 2\naxis y 1 2\n";
    private static final String FOUR = "0:x=1 y=1, 0:x=1 y=2, 0:x=2 y=1, 0:x=2 y=2";

    public static void main(String[] args) {
        firstSlowest();
        withoutAxes();
        allPairsOfAnExclude();
        pairOfNoAxis();
        eachInclude();
        samePairs();
        byNumbers();
        onlyWithoutFault();
        moreThanABound();
        zeroWithAFault();
        toldTill();
        ofTheIth();
        noneSuchOrAnotherWhat();
        charactersOfPairs();
        nonePair();
        Due.end();
    }

    private static void firstSlowest() {
        Due.sentence("Terms", "one VALUE of each AXIS, the first AXIS going slowest, VALUES as they were told");
        Due.dueCombinations("job a\naxis b 1", "0:b=1");
        Due.dueCombinations("job a\naxis b 2 1\naxis a 2 1", "0:b=2 a=2, 0:b=2 a=1, 0:b=1 a=2, 0:b=1 a=1");
        Due.dueCombinations("job a\naxis c 1\naxis b 1 2\naxis a 1", "0:c=1 b=1 a=1, 0:c=1 b=2 a=1");
        PipelineText x = Due.expanding("job j\naxis c 5 4 3 2 1\naxis b 5 4 3 2 1\naxis a 5 4 3 2 1", 125);
        int[] asked = {0, 1, 4, 5, 24, 25, 62, 99, 100, 124};
        for (int i : asked) {
            String want = "c=" + (5 - i / 25) + " b=" + (5 - i / 5 % 5) + " a=" + (5 - i % 5);
            Due.due("combination " + i, Due.pairs(x, i), want);
        }
        Due.due("none behind 124", x.expanded(125, 0), -1);
    }

    private static void withoutAxes() {
        Due.sentence("Terms", "(without AXES, but with an include: none; without both: one of no PAIRS)");
        Due.dueCombinations("job a", "0:");
        Due.dueCombinations("job a\nexclude x=1\nstep s", "0:");
        Due.dueCombinations("job a\ninclude x=1", "0:x=1");
        Due.dueCombinations("job a\ninclude x=1\nexclude x=1", "0:x=1");
        Due.dueCombinations("job a\n" + Due.numbered("include x=#\n", 4), "0:x=0, 0:x=1, 0:x=2, 0:x=3");
        Due.dueCombinations("job a\naxis x 1\nexclude x=1", "");
        Due.dueCombinations("job a\naxis x 1\ninclude y=1", "0:x=1, 0:y=1");
        PipelineText x = Due.expanding("job a", 1);
        Due.due("no pairs", x.expanded(0, 1), 0);
        Due.due("no pair", x.pair(0, 0, 0), -1);
    }

    private static void allPairsOfAnExclude() {
        Due.sentence("Terms", "but those that have all PAIRS of an exclude");
        Due.dueCombinations(TWO_BY_TWO + "exclude x=1", "0:x=2 y=1, 0:x=2 y=2");
        Due.dueCombinations(TWO_BY_TWO + "exclude y=2", "0:x=1 y=1, 0:x=2 y=1");
        Due.dueCombinations(TWO_BY_TWO + "exclude x=1 y=2", "0:x=1 y=1, 0:x=2 y=1, 0:x=2 y=2");
        Due.dueCombinations(TWO_BY_TWO + "exclude y=2 x=1", "0:x=1 y=1, 0:x=2 y=1, 0:x=2 y=2");
        Due.dueCombinations(TWO_BY_TWO + "exclude x=3", FOUR);
        Due.dueCombinations(TWO_BY_TWO + "exclude x=1\nexclude x=2", "");
        Due.dueCombinations(TWO_BY_TWO + "exclude x=3\nexclude x=3\nexclude x=3\nexclude x=2 y=2",
                "0:x=1 y=1, 0:x=1 y=2, 0:x=2 y=1");
        Due.dueCombinations("job a\naxis x 1\naxis y 1\naxis z 1 2\nexclude z=1 y=1 x=1", "0:x=1 y=1 z=2");
        Due.dueCombinations(TWO_BY_TWO + "exclude x=1\njob b\naxis x 1", "0:x=2 y=1, 0:x=2 y=2, 1:x=1");
    }

    private static void pairOfNoAxis() {
        Due.sentence("Terms", "(a PAIR of no AXIS is never had)");
        Due.dueCombinations(TWO_BY_TWO + "exclude z=1", FOUR);
        Due.dueCombinations(TWO_BY_TWO + "exclude x=1 z=1", FOUR);
        Due.dueCombinations(TWO_BY_TWO + "exclude z=1 x=1 y=1 w=1", FOUR);
        Due.dueCombinations(TWO_BY_TWO + "exclude xx=1\nexclude a=1\nexclude 1=x\nexclude branch=1", FOUR);
        Due.dueCombinations("job a\nexclude z=1", "0:");
        PipelineText x = new PipelineText();
        Due.put(x, "main");
        Due.due("branch", x.branch(), true);
        Due.due("read", Due.read(x, "job a\naxis x 1\nexclude branch=main"), 1);
        Due.due("the branch is no axis", x.expand(9), 1);
    }

    private static void eachInclude() {
        Due.sentence("Terms", "then each include as one of just its PAIRS, in their order");
        Due.dueCombinations(TWO_BY_TWO + "include z=1", FOUR + ", 0:z=1");
        Due.dueCombinations(TWO_BY_TWO + "include y=1 x=3", FOUR + ", 0:y=1 x=3");
        Due.dueCombinations(TWO_BY_TWO + "include x=1", FOUR + ", 0:x=1");
        Due.dueCombinations(TWO_BY_TWO + "include z=1 y=1 x=1 w=1\ninclude w=4 z=3 y=2 x=1", FOUR
                + ", 0:z=1 y=1 x=1 w=1, 0:w=4 z=3 y=2 x=1");
        Due.dueCombinations("job a\ninclude b=1\ninclude a=1\naxis x 1", "0:x=1, 0:b=1, 0:a=1");
        Due.dueCombinations("job a\ninclude x=1\ninclude y=1\nexclude x=1", "0:x=1, 0:y=1");
    }

    private static void samePairs() {
        Due.sentence("Terms", "unless there is one with the same PAIRS (whatever their order)");
        Due.dueCombinations(TWO_BY_TWO + "include x=1 y=1", FOUR);
        Due.dueCombinations(TWO_BY_TWO + "include y=2 x=2", FOUR);
        Due.dueCombinations(TWO_BY_TWO + "include y=2 x=2 z=1", FOUR + ", 0:y=2 x=2 z=1");
        Due.dueCombinations(TWO_BY_TWO + "include y=2", FOUR + ", 0:y=2");
        Due.dueCombinations(TWO_BY_TWO + "include x=2 z=2", FOUR + ", 0:x=2 z=2");
        Due.dueCombinations("job a\ninclude x=1\ninclude x=1\ninclude x=1\ninclude x=1", "0:x=1");
        Due.dueCombinations("job a\ninclude p=1 q=2 r=3 s=4\ninclude s=4 r=3 q=2 p=1\ninclude p=1 q=2 r=3\n"
                + "include p=1 q=2 r=3 s=5", "0:p=1 q=2 r=3 s=4, 0:p=1 q=2 r=3, 0:p=1 q=2 r=3 s=5");
        Due.dueCombinations("job a\ninclude x=1 y=2\ninclude x=2 y=1\ninclude y=1 x=2", "0:x=1 y=2, 0:x=2 y=1");
        Due.dueCombinations(TWO_BY_TWO + "exclude x=1\ninclude y=1 x=1\ninclude x=1 y=1", "0:x=2 y=1, 0:x=2 y=2, "
                + "0:y=1 x=1");
        Due.dueCombinations("job a\naxis x 1\njob b\ninclude x=1\njob c\ninclude x=1", "0:x=1, 1:x=1, 2:x=1");
        Due.dueCombinations("job a\naxis x 1\naxis y 1\naxis z 1\ninclude z=1 x=1 y=1\ninclude z=1 x=1",
                "0:x=1 y=1 z=1, 0:z=1 x=1");
    }

    private static void byNumbers() {
        Due.sentence("Terms", "EXPANDED are JOBS, by numbers, with their COMBINATIONS, in order");
        Due.dueCombinations("", "");
        Due.dueCombinations("part p", "");
        Due.dueCombinations("job c\naxis x 1 2\njob b\naxis x 1\nexclude x=1\njob a\ninclude x=2\njob d",
                "0:x=1, 0:x=2, 2:x=2, 3:");
        PipelineText x = Due.expanding(Due.numbered("job j#\n", 12), 12);
        for (int i = 0; i < 12; i++) {
            Due.due("job of " + i, x.expanded(i, 0), i);
        }
    }

    private static void onlyWithoutFault() {
        Due.sentence("Terms", "EXPANDED .. only if there is no FAULT");
        for (String text : new String[] {"job b\njob a\nneeds no", "job b\njob a\nif ok no", "job b\njob a\nuse no",
                "job b\npart p\nuse no", "job b\npart p\nuse p", "job b\njob a\nneeds a"}) {
            PipelineText x = Due.reading(text);
            Due.due("expand of '" + text.replace("\n", "|") + "'", x.expand(9), 0);
            Due.due("expanded", x.expanded(0, 0), -1);
            Due.due("pair", x.pair(0, 0, 0), -1);
            Due.due("step", x.step(0, 0, 0), -1);
            Due.due("wants", x.wants(0, -1), false);
        }
    }

    private static void moreThanABound() {
        Due.sentence("Promise 9", "- 1 if there would be more than a bound (none are there then)");
        PipelineText x = Due.reading("job a\naxis x 1 2\ninclude y=1\njob b");
        Due.due("expand(5)", x.expand(5), 4);
        Due.due("expand(4)", x.expand(4), 4);
        Due.due("the last one", x.expanded(3, 0), 1);
        Due.due("expand(3)", x.expand(3), -1);
        Due.due("none are there", x.expanded(0, 0), -1);
        Due.due("no last one", x.expanded(3, 0), -1);
        Due.due("no pair", x.pair(0, 0, 0), -1);
        Due.due("none wants", x.wants(0, -1), false);
        Due.due("expand(4) anew", x.expand(4), 4);
        Due.due("expand(0)", x.expand(0), -1);
        Due.due("expand(-1)", x.expand(-1), -1);
        Due.due("expand of the least", x.expand(Integer.MIN_VALUE), -1);
        Due.due("expand of the most", x.expand(Integer.MAX_VALUE), 4);
        PipelineText none = new PipelineText();
        Due.due("none in a bound of 1", none.expand(1), 0);
        Due.due("none in a bound of 0", none.expand(0), 0);
        Due.due("none is more than -1", none.expand(-1), -1);
        mostExpanded();
    }

    private static void mostExpanded() {
        String axes = "axis x 1 2 3 4 5\naxis y 1 2 3 4 5\naxis z 1 2 3 4 5\n";
        PipelineText x = Due.reading(Due.numbered("job #\n" + axes, 12) + "include w=1");
        Due.due("one less than the most", x.expand(1500), -1);
        Due.due("the most", x.expand(1501), 1501);
        Due.due("the last one of axes", Due.pairs(x, 1499), "x=5 y=5 z=5");
        Due.due("the last one", Due.pairs(x, 1500), "w=1");
        Due.due("the first one of the second job", x.expanded(125, 0), 1);
        Due.due("none behind", x.expanded(1501, 0), -1);
        PipelineText one = Due.reading("job a\n" + axes + Due.numbered("include w=#\n", 4));
        Due.due("one less than 129", one.expand(128), -1);
        Due.due("129 of one job", one.expand(129), 129);
        Due.due("the last include", Due.pairs(one, 128), "w=3");
    }

    private static void zeroWithAFault() {
        Due.sentence("Promise 9", "0 with a FAULT");
        PipelineText x = Due.reading("job a\nneeds a\naxis x 1 2");
        for (int bound : new int[] {Integer.MAX_VALUE, 2, 1, 0}) {
            Due.due("expand(" + bound + ") with a fault", x.expand(bound), 0);
            Due.due("none are there", x.expanded(0, 0), -1);
        }
        Due.due("read without a fault", Due.read(x, "job a\naxis x 1 2"), 1);
        Due.due("expand(2)", x.expand(2), 2);
        Due.due("read with a fault", Due.read(x, "job a\nuse p"), 1);
        Due.due("expand with a fault", x.expand(2), 0);
        Due.due("none are there", x.expanded(0, 0), -1);
    }

    private static void toldTill() {
        Due.sentence("Promise 9", "They are told till READING, or EXPANDING anew.");
        PipelineText x = Due.reading("job a\naxis x 1 2\nstep $x");
        Due.due("none before expanding", x.expanded(0, 0), -1);
        Due.due("expand", x.expand(2), 2);
        x.job(0, 0);
        x.needs(0, 0);
        x.check();
        x.culprit();
        Due.put(x, "main");
        x.branch();
        Due.put(x, "job b\nstep other\njob c");
        Due.due("told before reading", Due.pairs(x, 1), "x=2");
        Due.due("the step before reading", Due.steps(x, 1), "2");
        Due.due("read", x.read(), 2);
        Due.due("none after reading", x.expanded(0, 0), -1);
        Due.due("no step after reading", x.step(0, 0, 0), -1);
        Due.due("none wants after reading", x.wants(0, -1), false);
        Due.due("expand the new ones", x.expand(2), 2);
        Due.due("the new one", Due.steps(x, 0), "other");
        Due.due("expand anew by less", x.expand(1), -1);
        Due.due("none are told", x.expanded(0, 0), -1);
        Due.due("expand anew", x.expand(2), 2);
        Due.due("told anew", x.expanded(1, 0), 1);
        Due.due("read of the empty tape", x.read(), 0);
        Due.due("none after reading nothing", x.expanded(0, 0), -1);
    }

    private static void ofTheIth() {
        Due.sentence("Promise 10", "Of the i-th EXPANDED one: 0 its JOB, 1 how many PAIRS, 2 how many STEPS");
        PipelineText x = Due.expanding("job a\njob b\naxis x 1\naxis y 1\naxis z 1\ninclude a=1 b=1 c=1 d=1\n"
                + Due.times("step s\n", 8) + "job c\ninclude e=1\nuse p\npart p\nstep t", 4);
        String[] want = {"0 0 0", "1 3 8", "1 4 8", "2 1 1", "-1 -1 -1"};
        for (int i = 0; i < want.length; i++) {
            Due.due("expanded " + i, x.expanded(i, 0) + " " + x.expanded(i, 1) + " " + x.expanded(i, 2), want[i]);
        }
    }

    private static void noneSuchOrAnotherWhat() {
        Due.sentence("Promise 10", "NONE if there is none such, or for another what");
        PipelineText x = Due.expanding("job a\naxis x 1 2\nstep s", 2);
        for (int what = 0; what <= 2; what++) {
            Due.due("expanded(-1, " + what + ")", x.expanded(-1, what), -1);
            Due.due("expanded(1, " + what + ")", x.expanded(1, what), what == 0 ? 0 : 1);
            Due.due("expanded(2, " + what + ")", x.expanded(2, what), -1);
            for (int far : FAR) {
                Due.due("expanded(" + far + ", " + what + ")", x.expanded(far, what), -1);
            }
        }
        Due.due("expanded(0, -1)", x.expanded(0, -1), -1);
        Due.due("expanded(0, 3)", x.expanded(0, 3), -1);
        for (int far : FAR) {
            Due.due("expanded(0, " + far + ")", x.expanded(0, far), -1);
            Due.due("expanded(" + far + ", " + far + ")", x.expanded(far, far), -1);
        }
    }

    private static void charactersOfPairs() {
        Due.sentence("Promise 11", "by AXES, or as in its include), written as NAME = VALUE at once");
        PipelineText x = Due.expanding("job a\naxis abcdefgh 12345678\naxis b 1\ninclude z=12345678 abcdefgh=1 b=c", 2);
        Due.due("by axes", Due.pairs(x, 0), "abcdefgh=12345678 b=1");
        Due.due("as in its include", Due.pairs(x, 1), "z=12345678 abcdefgh=1 b=c");
        Due.due("before the first", x.pair(0, 0, -1), -1);
        Due.due("the first", x.pair(0, 0, 0), 'a');
        Due.due("the last of the NAME", x.pair(0, 0, 7), 'h');
        Due.due("the = of the longest", x.pair(0, 0, 8), '=');
        Due.due("the first of the VALUE", x.pair(0, 0, 9), '1');
        Due.due("the last of the longest", x.pair(0, 0, 16), '8');
        Due.due("behind the longest", x.pair(0, 0, 17), -1);
        Due.due("the = of the shortest", x.pair(0, 1, 1), '=');
        Due.due("the last of the shortest", x.pair(0, 1, 2), '1');
        Due.due("behind the shortest", x.pair(0, 1, 3), -1);
    }

    private static void nonePair() {
        Due.sentence("Promise 11", "NONE if there is none");
        PipelineText x = Due.expanding("job a\naxis x 1\naxis y 1\naxis z 1\ninclude p=1 q=1 r=1 s=1\ninclude p=1\n"
                + "job b", 4);
        int[] pairs = {3, 4, 1, 0};
        for (int i = 0; i < pairs.length; i++) {
            for (int p = 0; p <= 4; p++) {
                Due.due("pair(" + i + ", " + p + ", 1)", x.pair(i, p, 1), p < pairs[i] ? '=' : -1);
            }
            Due.due("pair(" + i + ", -1, 1)", x.pair(i, -1, 1), -1);
        }
        Due.due("pair(-1, 0, 1)", x.pair(-1, 0, 1), -1);
        Due.due("pair(4, 0, 1)", x.pair(4, 0, 1), -1);
        Due.due("pair(0, 0, 2)", x.pair(0, 0, 2), '1');
        Due.due("pair(0, 0, 3)", x.pair(0, 0, 3), -1);
        for (int far : FAR) {
            Due.due("pair(" + far + ", 0, 0)", x.pair(far, 0, 0), -1);
            Due.due("pair(0, " + far + ", 0)", x.pair(0, far, 0), -1);
            Due.due("pair(0, 0, " + far + ")", x.pair(0, 0, far), -1);
            Due.due("pair of " + far + " thrice", x.pair(far, far, far), -1);
        }
    }
}
