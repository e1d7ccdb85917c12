/** Boundary cases of FAULTS: their order, by whom they are told, rings of every length; promises 7 and 8. */
public final class EdgeFaultTest {
    public static void main(String[] args) {
        firstOfThese();
        firstJobByNumbers();
        needsOrAsks();
        jobThenPart();
        partsByWayOfOthers();
        firstPartThatDoes();
        jobsByWayOfOthers();
        noneToCheck();
        culprits();
        noCulprit();
        Due.end();
    }

    private static void firstOfThese() {
        Due.sentence("Terms", "FAULTS, the first of these");
        String[] faults = {"job a\nneeds nobody\n", "job b\nuse nothing\n", "part c\nuse c\n", "job d\nneeds d\n"};
        int[] culprits = {0, 0, 100, 0};
        for (int one = 0; one < 4; one++) {
            Due.dueFault(faults[one], one + 1, culprits[one]);
            for (int other = one + 1; other < 4; other++) {
                Due.dueFault(faults[one] + faults[other], one + 1, culprits[one]);
                boolean jobBefore = one != 2 && faults[other].startsWith("job");
                Due.dueFault(faults[other] + faults[one], one + 1, culprits[one] + (jobBefore ? 1 : 0));
            }
        }
        Due.dueFault(faults[3] + faults[2] + faults[1] + faults[0], 1, 2);
        Due.dueFault(faults[3] + faults[2] + faults[1], 2, 1);
        Due.dueFault(faults[3] + faults[2], 3, 100);
        Due.dueFault("job a\nneeds a nobody\nuse nothing\npart p\nuse p\nuse nothing", 1, 0);
        Due.dueFault("job a\nneeds a\nuse p\npart p\nuse p\nuse nothing", 2, 100);
    }

    private static void firstJobByNumbers() {
        Due.sentence("Terms", "1 a JOB (the first one by numbers)");
        for (int who = 0; who < 12; who++) {
            String text = Due.numbered("job j#\n", 12);
            String one = text.replace("job j" + who + "\n", "job j" + who + "\nneeds nobody\n");
            Due.dueFault(one, 1, who);
            Due.dueFault(one + (who < 11 ? "needs nobody" : "if ok nobody"), 1, who);
        }
        Due.dueFault("part p\npart q\njob a\njob b\nneeds p", 1, 1);
    }

    private static void needsOrAsks() {
        Due.sentence("Terms", "NEEDS, or asks in its CONDITION by ok or bad, for one that isn't there");
        Due.dueFault("job a\nneeds b c d e f a", 1, 0);
        Due.dueFault("job a\nneeds a b c d e f\njob b\njob c\njob d\njob e", 1, 0);
        Due.dueFault("job a\nneeds b c d e f\njob b\njob c\njob d\njob e\njob f", 0, -1);
        Due.dueFault("job a\nif ok b", 1, 0);
        Due.dueFault("job a\nif bad b", 1, 0);
        Due.dueFault("job a\nif ok a and bad a", 0, -1);
        Due.dueFault("job a\nif always or " + Due.times("not ", 6) + "bad b", 1, 0);
        Due.dueFault("job a\nif " + Due.times("ok a or ", 6) + "bad b", 1, 0);
        Due.dueFault("job a\nif " + Due.times("ok a or ", 6) + "bad a", 0, -1);
        Due.dueFault("job a\nif b=c or branch=d", 0, -1);
        Due.dueFault("job a\nif ok b\npart b", 1, 0);
        Due.dueFault("job a\nneeds b\npart b", 1, 0);
        Due.dueFault("job a\nif bad bb\njob b\njob bbb", 1, 0);
        Due.dueFault("job a\nneeds b\nif bad b\njob b", 0, -1);
    }

    private static void jobThenPart() {
        Due.sentence("Terms", "2 a JOB, then a PART, by numbers: uses a PART that isn't there");
        Due.dueFault("part p\nuse no\njob a\nuse no", 2, 0);
        Due.dueFault("part p\nuse no\njob a\njob b\nuse no\njob c\nuse no", 2, 1);
        Due.dueFault("part p\nuse no\njob a", 2, 100);
        for (int who = 0; who < 8; who++) {
            String text = Due.numbered("part p#\n", 8);
            String one = text.replace("part p" + who + "\n", "part p" + who + "\nuse no\n");
            Due.dueFault(one, 2, 100 + who);
            Due.dueFault(one + "use no", 2, 100 + who);
            Due.dueFault(one + Due.numbered("job j#\n", 12) + "use no", 2, 11);
        }
        Due.dueFault("job a\n" + Due.times("use p\n", 7) + "use no\npart p", 2, 0);
        Due.dueFault("job a\n" + Due.times("use p\n", 8) + "part p\nstep no", 0, -1);
        Due.dueFault("job a\nuse a", 2, 0);
        Due.dueFault("job a\nuse a\npart a", 0, -1);
    }

    /** PARTS p0 .. of a chain, each using the next one, the last one using what is told. */
    private static String chainOfParts(int count, String last) {
        StringBuilder text = new StringBuilder();
        for (int p = 0; p < count; p++) {
            text.append("part p").append(p).append("\nuse ").append(p + 1 < count ? "p" + (p + 1) : last).append('\n');
        }
        return text.toString();
    }

    private static void partsByWayOfOthers() {
        Due.sentence("Terms", "3 PARTS that use themselves, by way of others too");
        for (int count = 1; count <= 8; count++) {
            Due.dueFault(chainOfParts(count, "p0"), 3, 100);
            Due.dueFault("job a\nuse p0\n" + chainOfParts(count, "p0"), 3, 100);
            String open = chainOfParts(count, "p0").replaceAll("use p0\n", "step p0\n");
            Due.dueFault(open, 0, -1);
        }
        Due.dueFault("part a\nuse b\nuse c\npart b\nuse d\npart c\nuse d\npart d", 0, -1);
        Due.dueFault("part a\n" + Due.times("use b\n", 8) + "part b", 0, -1);
        Due.dueFault("part a\n" + Due.times("use b\n", 7) + "use a\npart b", 3, 100);
    }

    private static void firstPartThatDoes() {
        Due.sentence("Terms", "(told by the first PART that does)");
        for (int to = 0; to < 8; to++) {
            Due.dueFault(chainOfParts(8, "p" + to), 3, 100 + to);
        }
        Due.dueFault("part a\nuse c\npart b\nuse b\npart c\nuse c", 3, 101);
        Due.dueFault("part a\npart b\nuse d\npart c\nuse c\npart d\nuse b", 3, 101);
        Due.dueFault("part d\nuse c\npart c\nuse b\npart b\nuse a\npart a\nuse c", 3, 101);
    }

    /** JOBS j0 .. of a chain, each needing the next one, the last one needing what is told. */
    private static String chainOfJobs(int count, String last) {
        StringBuilder text = new StringBuilder();
        for (int j = 0; j < count; j++) {
            text.append("job j").append(j).append("\nneeds ").append(j + 1 < count ? "j" + (j + 1) : last).append('\n');
        }
        return text.toString();
    }

    private static void jobsByWayOfOthers() {
        Due.sentence("Terms", "4 JOBS that NEED themselves so");
        for (int count = 1; count <= 12; count++) {
            Due.dueFault(chainOfJobs(count, "j0"), 4, 0);
            Due.dueFault(chainOfJobs(count, "j0").replaceAll("needs j0\n", "if ok j0\n"), 0, -1);
            Due.dueFault(chainOfJobs(count, "j" + (count - 1)), 4, count - 1);
        }
        Due.dueFault("job a\nneeds b c\njob b\nneeds d\njob c\nneeds d\njob d", 0, -1);
        Due.dueFault("job a\nif ok a or bad a", 0, -1);
        Due.dueFault("job a\njob b\njob c\njob d\njob e\njob f\nneeds a b c d e f", 4, 5);
    }

    private static void noneToCheck() {
        Due.sentence("Promise 7", "The FAULT: 0 if there is none");
        Due.due("check of a new object", new PipelineText().check(), 0);
        Due.dueFault("", 0, -1);
        Due.dueFault("part p", 0, -1);
        Due.dueFault("job a", 0, -1);
        Due.dueFault("x", 0, -1);
        PipelineText x = Due.reading("job a\nneeds a");
        Due.due("check", x.check(), 4);
        Due.due("expand", x.expand(1), 0);
        Due.due("check after expand", x.check(), 4);
        Due.put(x, "job b\n");
        Due.due("check before reading anew", x.check(), 4);
        Due.due("read", x.read(), 1);
        Due.due("check after reading anew", x.check(), 0);
    }

    private static void culprits() {
        Due.sentence("Promise 8", "the JOB's number (1; 2 if it is a JOB), 100 and the PART's (2, 3), the first JOB by "
                + "numbers that does (4)");
        Due.dueFault("job a\nneeds no", 1, 0);
        Due.dueFault(Due.numbered("job j#\n", 12) + "if bad no", 1, 11);
        Due.dueFault("job a\nuse no", 2, 0);
        Due.dueFault(Due.numbered("job j#\n", 12) + "use no", 2, 11);
        Due.dueFault("part p\nuse no", 2, 100);
        Due.dueFault(Due.numbered("part p#\n", 8) + "use no", 2, 107);
        Due.dueFault("part p0\nuse p0", 3, 100);
        Due.dueFault(Due.numbered("part p#\n", 8) + "use p7", 3, 107);
        Due.dueFault("job a\nneeds a", 4, 0);
        Due.dueFault(Due.numbered("job j#\n", 12) + "needs j11", 4, 11);
        for (int to = 0; to < 12; to++) {
            Due.dueFault(chainOfJobs(12, "j" + to), 4, to);
        }
        Due.dueFault("job c\nneeds b\njob b\nneeds a\njob a\nneeds b", 4, 1);
    }

    private static void noCulprit() {
        Due.sentence("Promise 8", "NONE if there is no FAULT");
        Due.due("culprit of a new object", new PipelineText().culprit(), -1);
        PipelineText x = Due.reading("job a\nneeds a");
        Due.due("culprit", x.culprit(), 0);
        Due.due("read of a well one", Due.read(x, "job a"), 1);
        Due.due("no culprit", x.culprit(), -1);
        Due.due("read of a wrong one", Due.read(x, "job a\njob b\nuse p"), 2);
        Due.due("a culprit", x.culprit(), 1);
        Due.due("read of an ILL one", Due.read(x, "x"), -1);
        Due.due("no culprit of an ILL one", x.culprit(), -1);
        Due.due("read of a wrong part", Due.read(x, "part p\nuse p"), 0);
        Due.due("a culprit that is a part", x.culprit(), 100);
        Due.due("read of the empty tape", x.read(), 0);
        Due.due("no culprit of the empty tape", x.culprit(), -1);
    }
}
