/** Boundary cases of OUTCOMES and of wanting to run: the Terms, and promise 13. */
public final class EdgeWantsTest {
    public static void main(String[] args) {
        fourOutcomes();
        withoutCondition();
        elseIfThatIsSo();
        okAndBad();
        pairThatIsHad();
        branch();
        bitsOfJobs();
        noneSuch();
        Due.end();
    }

    /** What an EXPANDED one is due to answer for the outcomes 0 to 3 of the first JOB, a sign each. */
    private static void dueOutcomes(PipelineText x, int i, String want) {
        StringBuilder got = new StringBuilder();
        for (int outcome = 0; outcome < 4; outcome++) {
            got.append(x.wants(i, outcome) ? '1' : '0');
        }
        Due.due("wants(" + i + ", 0 .. 3)", got.toString(), want);
    }

    private static void fourOutcomes() {
        Due.sentence("Terms", "two bits for each JOB (0 none, 1 ok, 2 bad, 3 both)");
        PipelineText x = Due.expanding("job a\njob b\nif ok a and not bad a\njob c\nif bad a and not ok a\njob d\n"
                + "if ok a and bad a\njob e\nif not ok a and not bad a", 5);
        dueOutcomes(x, 0, "1111");
        dueOutcomes(x, 1, "0100");
        dueOutcomes(x, 2, "0010");
        dueOutcomes(x, 3, "0001");
        dueOutcomes(x, 4, "1000");
    }

    private static void withoutCondition() {
        Due.sentence("Terms", "if it has no CONDITION: each JOB that it NEEDS is ok (1 or 3)");
        PipelineText x = Due.expanding("job a\njob b\nneeds a\njob c\nneeds b a", 3);
        dueOutcomes(x, 0, "1111");
        dueOutcomes(x, 1, "0101");
        dueOutcomes(x, 2, "0000");
        for (int a = 0; a < 4; a++) {
            for (int b = 0; b < 4; b++) {
                boolean want = (a == 1 || a == 3) && (b == 1 || b == 3);
                Due.due("wants with " + a + " and " + b, x.wants(2, a | b << 2), want);
            }
        }
        PipelineText y = Due.expanding("job z\nneeds a b c d e f\n" + "job a\njob b\njob c\njob d\njob e\njob f", 7);
        Due.due("six that are ok", y.wants(0, 0b01010101010100), true);
        Due.due("six that are both", y.wants(0, 0b11111111111100), true);
        for (int job = 1; job <= 6; job++) {
            int others = 0b01010101010100 & ~(3 << 2 * job);
            Due.due("none of " + job, y.wants(0, others), false);
            Due.due("bad of " + job, y.wants(0, others | 2 << 2 * job), false);
            Due.due("both of " + job, y.wants(0, others | 3 << 2 * job), true);
        }
    }

    private static void elseIfThatIsSo() {
        Due.sentence("Terms", "else if that is so: always is");
        PipelineText x = Due.expanding("job a\njob b\nneeds a\nif always\njob c\nneeds a\nif not always\njob d\n"
                + "needs a\nif bad a", 4);
        dueOutcomes(x, 1, "1111");
        dueOutcomes(x, 2, "0000");
        dueOutcomes(x, 3, "0011");
    }

    private static void okAndBad() {
        Due.sentence("Terms", "ok NAME: the outcome is 1 or 3; bad NAME: 2 or 3");
        PipelineText x = Due.expanding("job a\nif ok a\njob b\nif bad a\njob c\nif not ok a\njob d\nif not bad a", 4);
        dueOutcomes(x, 0, "0101");
        dueOutcomes(x, 1, "0011");
        dueOutcomes(x, 2, "1010");
        dueOutcomes(x, 3, "1100");
    }

    private static void pairThatIsHad() {
        Due.sentence("Terms", "a PAIR: the COMBINATION has it");
        PipelineText x = Due.expanding("job a\naxis x 1 2\naxis y 1\ninclude y=1\ninclude x=1 z=1 w=1 v=1\nif x=1", 4);
        boolean[] want = {true, false, false, true};
        for (int i = 0; i < want.length; i++) {
            Due.due("wants(" + i + ", 0)", x.wants(i, 0), want[i]);
        }
        PipelineText both = Due.expanding("job a\naxis x 1 2\naxis y 1 2\nif x=1 and y=2\njob b\naxis x 1 2\n"
                + "axis y 1 2\nif x=1 or y=2\njob c\naxis x 1 2\naxis y 1 2\nif not ( x=1 or ok a and y=2 )", 12);
        String want12 = "010011010011";
        for (int i = 0; i < 12; i++) {
            Due.due("wants(" + i + ", 2) by two pairs", both.wants(i, 2), want12.charAt(i) == '1');
        }
        PipelineText y = Due.expanding("job a\ninclude a=1 b=2 c=3 abcdefgh=12345678\nif abcdefgh=12345678\njob b\n"
                + "include abcdefgh=12345678\nif abcdefgh=1234567\njob c\ninclude abcdefgh=1\nif abcdefg=1\njob d\n"
                + "if d=1\njob e\ninclude x=y\nif y=x\njob f\ninclude x=1\nif not x=2", 6);
        boolean[] due = {true, false, false, false, false, true};
        for (int i = 0; i < due.length; i++) {
            Due.due("wants(" + i + ", -1)", y.wants(i, -1), due[i]);
        }
    }

    private static void dueBranches(PipelineText x, String branch, String want) {
        Due.put(x, branch);
        x.branch();
        StringBuilder got = new StringBuilder();
        for (int i = 0; i < want.length(); i++) {
            got.append(x.wants(i, 0) ? '1' : '0');
        }
        Due.due("wants with the branch '" + branch + "'", got.toString(), want);
    }

    private static void branch() {
        Due.sentence("Terms", "or (with the NAME branch, and no such NAME in the COMBINATION) the VALUE is the BRANCH");
        PipelineText x = Due.expanding("job a\nif branch=main\njob b\nif not branch=main\njob c\ninclude x=1\n"
                + "if branch=main\njob d\ninclude branch=dev\nif branch=main\njob e\ninclude x=1 branch=dev\n"
                + "if branch=dev\njob f\nif branche=main or branc=main or ranch=main\njob g\nif branch=maintain\n"
                + "job h\naxis branch main dev\nif branch=main", 9);
        dueBranches(x, "", "010010010");
        dueBranches(x, "main", "101010010");
        dueBranches(x, "dev", "010010010");
        dueBranches(x, "mai", "010010010");
        dueBranches(x, "mainmain", "010010010");
        dueBranches(x, "maintain", "010010110");
        dueBranches(x, "main", "101010010");
        dueBranches(x, "main ", "010010010");
        dueBranches(x, "main", "101010010");
        dueBranches(x, "maintains", "010010010");
    }

    private static void bitsOfJobs() {
        Due.sentence("Promise 13", "the bits of JOB k being 2 k and 2 k + 1");
        for (String asks : new String[] {"ok", "bad"}) {
            PipelineText x = Due.expanding(Due.numbered("job j#\nif " + asks + " j#\n", 12), 12);
            for (int job = 0; job < 12; job++) {
                int bit = 2 * job + (asks.equals("ok") ? 0 : 1);
                Due.due(asks + " of " + job + " by its bit", x.wants(job, 1 << bit), true);
                Due.due(asks + " of " + job + " by the others", x.wants(job, ~(1 << bit)), false);
                Due.due(asks + " of " + job + " by none", x.wants(job, 0), false);
                Due.due(asks + " of " + job + " by all", x.wants(job, -1), true);
                Due.due(asks + " of " + job + " by bits of no job", x.wants(job, 0xff000000), false);
            }
        }
        PipelineText y = Due.expanding(Due.numbered("job j#\n", 11) + "job last\nneeds j0 j10", 12);
        Due.due("just the bits of those needed", y.wants(11, 1 | 1 << 20), true);
        Due.due("all but the bit of the first", y.wants(11, -2), false);
        Due.due("all but the bit of the other", y.wants(11, ~(1 << 20)), false);
    }

    private static void noneSuch() {
        Due.sentence("Promise 13", "false if there is none such");
        PipelineText x = Due.reading("job a\nif always\njob b");
        Due.due("wants before expand", x.wants(0, -1), false);
        Due.due("expand", x.expand(2), 2);
        Due.due("wants(-1, -1)", x.wants(-1, -1), false);
        Due.due("wants(0, 0)", x.wants(0, 0), true);
        Due.due("wants(1, 0)", x.wants(1, 0), true);
        Due.due("wants(2, -1)", x.wants(2, -1), false);
        for (int far : new int[] {Integer.MIN_VALUE, -2, 12, 1547, 1548, 1 << 30, Integer.MAX_VALUE}) {
            Due.due("wants(" + far + ", -1)", x.wants(far, -1), false);
        }
        Due.due("expand by less", x.expand(1), -1);
        Due.due("wants of none", x.wants(0, -1), false);
        Due.due("expand", x.expand(2), 2);
        Due.due("read of a fault", Due.read(x, "job a\nneeds a\nif always"), 1);
        Due.due("expand with a fault", x.expand(2), 0);
        Due.due("wants with a fault", x.wants(0, -1), false);
    }
}
