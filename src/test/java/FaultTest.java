/** Promises 7 and 8: check, culprit. */
public final class FaultTest {
    public static void main(String[] args) {
        none();
        missingJobs();
        missingParts();
        partsThatUseThemselves();
        jobsThatNeedThemselves();
        firstOfThese();
        Due.end();
    }

    private static void none() {
        Due.dueFault("", 0, -1);
        Due.dueFault("job a\npart p", 0, -1);
        Due.dueFault("job a\nneeds b\nif ok c or bad a\nuse p\njob b\njob c\npart p\nuse q\npart q", 0, -1);
        Due.dueFault("job a\nif ok a", 0, -1);
        Due.dueFault("job a\nif ok b\njob b\nif bad a", 0, -1);
        Due.dueFault("job a\nif zz=yy and branch=xx", 0, -1);
        Due.dueFault("job a\nneeds b c\njob b\nneeds d\njob c\nneeds d\njob d", 0, -1);
        Due.dueFault("job a\nuse p\nuse p\npart p\nuse q\nuse q\npart q\nstep x", 0, -1);
        Due.dueFault("job a\nuse a\npart a", 0, -1);
    }

    private static void missingJobs() {
        Due.dueFault("job a\nneeds b", 1, 0);
        Due.dueFault("job a\njob b\nneeds a c", 1, 1);
        Due.dueFault("job a\njob b\nif not ( ok a and bad c )", 1, 1);
        Due.dueFault("job a\njob b\nif ok c", 1, 1);
        Due.dueFault("job a\njob b\nif ok ok", 1, 1);
        Due.dueFault("job a\njob ok\nif ok ok or bad a", 0, -1);
        Due.dueFault("job a\nif ok d\njob b\nneeds d", 1, 0);
        Due.dueFault("job a\nneeds p\npart p", 1, 0);
        Due.dueFault("job a\nif always or always and ( not not bad p )\npart p", 1, 0);
    }

    private static void missingParts() {
        Due.dueFault("job a\nuse p", 2, 0);
        Due.dueFault("job a\nuse a", 2, 0);
        Due.dueFault("job a\njob b\nuse p\nuse q\npart p", 2, 1);
        Due.dueFault("part p\npart q\nuse p\nuse r", 2, 101);
        Due.dueFault("part p\nuse r\njob a\njob b\nuse r", 2, 1);
        Due.dueFault("part p\nuse a\njob a", 2, 100);
    }

    private static void partsThatUseThemselves() {
        Due.dueFault("part p\nuse p", 3, 100);
        Due.dueFault("part o\nuse p\npart p\nuse q\npart q\nuse r\npart r\nuse p", 3, 101);
        Due.dueFault("part o\nuse q\npart p\nuse q\npart q\nuse q\npart r\nuse r", 3, 102);
        Due.dueFault("part a\nuse b\npart b\nuse c\npart c\nuse d\npart d\nuse e\npart e\nuse f\npart f\nuse g\n"
                + "part g\nuse h\npart h\nstep x\nuse h", 3, 107);
        Due.dueFault("part a\nuse b\npart b\nuse c\npart c\nuse d\npart d\nuse e\npart e\nuse f\npart f\nuse g\n"
                + "part g\nuse h\npart h\nuse a", 3, 100);
        Due.dueFault("part a\nuse b\nuse d\npart b\npart c\nuse a\npart d\nuse c", 3, 100);
        Due.dueFault("job a\nuse b\npart b\npart c\npart d\nuse e\npart e\nuse d", 3, 102);
    }

    private static void jobsThatNeedThemselves() {
        Due.dueFault("job a\nneeds a", 4, 0);
        Due.dueFault("job a\nneeds b\njob b\nneeds c\njob c\nneeds b", 4, 1);
        Due.dueFault("job a\nneeds d\njob b\njob c\nneeds a\njob d\nneeds b c", 4, 0);
        StringBuilder chain = new StringBuilder();
        for (int j = 0; j < 12; j++) {
            chain.append("job j").append(j).append("\nneeds j").append((j + 1) % 12).append('\n');
        }
        Due.dueFault(chain.toString(), 4, 0);
        Due.dueFault(chain.toString().replace("needs j0\n", "needs j11\n"), 4, 11);
        Due.dueFault(chain.toString().replace("needs j0\n", "if ok j0\n"), 0, -1);
    }

    private static void firstOfThese() {
        Due.dueFault("job a\nneeds a\nuse z\njob b\nneeds c\npart p\nuse p", 1, 1);
        Due.dueFault("job a\nneeds a\njob b\nuse z\npart p\nuse p", 2, 1);
        Due.dueFault("job a\nneeds a\npart p\nuse p\npart q\nuse z", 2, 101);
        Due.dueFault("job a\njob b\nneeds b\npart p\nuse p", 3, 100);
        PipelineText x = Due.reading("job a\nneeds a");
        Due.due("check", x.check(), 4);
        Due.put(x, "job b");
        Due.due("the tape alone changes no fault", x.check(), 4);
        Due.due("nor a culprit", x.culprit(), 0);
        Due.due("read", x.read(), 1);
        Due.due("culprit now", x.culprit(), -1);
        Due.due("check now", x.check(), 0);
    }
}
