/** Promise 3: read, with the LINES that may stand in a text and those that are ILL. */
public final class ReadTest {
    public static void main(String[] args) {
        lines();
        names();
        beginnings();
        stepsAndUses();
        needs();
        axes();
        pairs();
        conditions();
        nesting();
        illLeavesNothing();
        Due.end();
    }

    private static void lines() {
        Due.dueRead("", 0);
        Due.dueRead("\n", 0);
        Due.dueRead("  \n \n\n", 0);
        Due.dueRead("job a", 1);
        Due.dueRead("job a\n", 1);
        Due.dueRead("  job   a  \n\n   \njob b\n\n", 2);
        Due.dueRead("\n\nx", -3);
        Due.dueRead("\n  \n x \n", -3);
        Due.dueRead("job a\n\nx\ny\n", -3);
        Due.dueRead("job a\nneeds b\n use\n", -3);
        Due.dueRead("job a x", -1);
        Due.dueRead("joba", -1);
        Due.dueRead("Job a", -1);
        Due.dueRead("jobs a", -1);
        Due.dueRead("jo a", -1);
        Due.dueRead("job=a", -1);
    }

    private static void names() {
        Due.dueRead("job abcdefgh", 1);
        Due.dueRead("job abcdefghi", -1);
        Due.dueRead("job 0", 1);
        Due.dueRead("job az09", 1);
        for (String no : new String[] {"A", "a_b", "a=b", "$a", "a-", "`", "{", "/", ":", "(", "aB", "="}) {
            Due.dueRead("job " + no, -1);
            Due.dueRead("part " + no, -1);
            Due.dueRead("job a\nuse " + no, -2);
            Due.dueRead("job a\nneeds b " + no, -2);
            Due.dueRead("job a\naxis " + no + " b", -2);
            Due.dueRead("job a\naxis b " + no, -2);
            Due.dueRead("job a\nif ok " + no, -2);
            Due.dueRead("job a\nstep " + no, 1);
        }
        Due.dueRead("job job\njob part\nneeds job\naxis axis axis\nif ok if", 2);
    }

    private static void beginnings() {
        Due.dueRead("job", -1);
        Due.dueRead("part", -1);
        Due.dueRead("part a b", -1);
        Due.dueRead("part a", 0);
        Due.dueRead("job a\npart a\njob b\npart b", 2);
        Due.dueRead("job a\njob b\njob a", -3);
        Due.dueRead("part a\npart b\npart a", -3);
        StringBuilder jobs = new StringBuilder();
        for (int j = 0; j < 12; j++) {
            jobs.append("job j").append(j).append('\n');
        }
        Due.dueRead(jobs.toString(), 12);
        Due.dueRead(jobs + "job j12", -13);
        StringBuilder parts = new StringBuilder();
        for (int p = 0; p < 8; p++) {
            parts.append("part p").append(p).append('\n');
        }
        Due.dueRead(parts.toString(), 0);
        Due.dueRead(parts + "part p8", -9);
        Due.dueRead(parts + jobs.toString(), 12);
        for (String line : new String[] {"step a", "use a", "needs a", "axis a b", "include a=b", "exclude a=b",
                "if always"}) {
            Due.dueRead(line, -1);
            Due.dueRead("job a\n" + line, 1);
            boolean ofParts = line.startsWith("step") || line.startsWith("use");
            Due.dueRead("part a\n" + line, ofParts ? 0 : -2);
            Due.dueRead("job a\npart a\n" + line, ofParts ? 1 : -3);
            Due.dueRead("part a\njob a\n" + line, 1);
        }
    }

    private static void stepsAndUses() {
        Due.dueRead("job a\nstep", -2);
        Due.dueRead("job a\nstep a b c d e f", 1);
        Due.dueRead("job a\nstep a b c d e f g", -2);
        Due.dueRead("job a\nstep ~!@ $ ( = averylongwordindeed ABC", 1);
        Due.dueRead("part a\nstep a b c d e f g", -2);
        Due.dueRead("job a\nuse", -2);
        Due.dueRead("job a\nuse b c", -2);
        Due.dueRead("job a\n" + Due.times("step a\n", 8), 1);
        Due.dueRead("job a\n" + Due.times("step a\n", 9), -10);
        Due.dueRead("job a\n" + Due.times("use b\n", 8), 1);
        Due.dueRead("job a\n" + Due.times("use b\n", 9), -10);
        Due.dueRead("job a\n" + Due.times("use b\n", 4) + Due.times("step a\n", 5), -10);
        Due.dueRead("part a\n" + Due.times("step a\nuse b\n", 4), 0);
        Due.dueRead("part a\n" + Due.times("step a\nuse b\n", 4) + "use c", -10);
        Due.dueRead("part a\n" + Due.times("step a\nuse b\n", 4) + "job b\n" + Due.times("step a\nuse b\n", 4), 1);
    }

    private static void needs() {
        Due.dueRead("job a\nneeds", -2);
        Due.dueRead("job a\nneeds a", 1);
        Due.dueRead("job a\nneeds b c d e f g", 1);
        Due.dueRead("job a\nneeds b c d e f g h", -2);
        Due.dueRead("job a\nneeds b c d\nneeds e f g", 1);
        Due.dueRead("job a\nneeds b c d\nneeds e f g\nneeds h", -4);
        Due.dueRead("job a\nneeds b b", -2);
        Due.dueRead("job a\nneeds b c\nneeds d b", -3);
        Due.dueRead("job a\nneeds b\njob c\nneeds b", 2);
    }

    private static void axes() {
        Due.dueRead("job a\naxis", -2);
        Due.dueRead("job a\naxis x", -2);
        Due.dueRead("job a\naxis x y", 1);
        Due.dueRead("job a\naxis x x", 1);
        Due.dueRead("job a\naxis x 1 2 3 4 5", 1);
        Due.dueRead("job a\naxis x 1 2 3 4 5 6", -2);
        Due.dueRead("job a\naxis x 1 2 1", -2);
        Due.dueRead("job a\naxis x 1\naxis y 1\naxis z 1", 1);
        Due.dueRead("job a\naxis x 1\naxis y 1\naxis z 1\naxis w 1", -5);
        Due.dueRead("job a\naxis x 1\naxis y 1\naxis x 2", -4);
        Due.dueRead("job a\naxis x 1\njob b\naxis x 1", 2);
    }

    private static void pairs() {
        for (String row : new String[] {"include", "exclude"}) {
            String begin = "job a\n" + row;
            Due.dueRead(begin, -2);
            Due.dueRead(begin + " a=b", 1);
            Due.dueRead(begin + " abcdefgh=abcdefgh", 1);
            for (String no : new String[] {"a", "a=", "=b", "=", "a=b=c", "a==b", "A=b", "a=B", "abcdefghi=a",
                    "a=abcdefghi", "a =b", "a= b", "a = b", "$a=b", "a=$b"}) {
                Due.dueRead(begin + " " + no, -2);
                Due.dueRead(begin + " z=z " + no, -2);
            }
            Due.dueRead(begin + " a=1 b=1 c=1 d=1", 1);
            Due.dueRead(begin + " a=1 b=1 c=1 d=1 e=1", -2);
            Due.dueRead(begin + " a=1 b=1 a=2", -2);
            Due.dueRead(begin + " a=1 b=1 a=1", -2);
            Due.dueRead("job a\n" + Due.times(row + " a=b\n", 4), 1);
            Due.dueRead("job a\n" + Due.times(row + " a=b\n", 5), -6);
        }
        Due.dueRead("job a\n" + Due.times("include a=b\nexclude a=b\n", 4), 1);
    }

    private static void dueCondition(String condition, boolean well) {
        Due.dueRead("job a\nif " + condition, well ? 1 : -2);
    }

    private static void conditions() {
        Due.dueRead("job a\nif always\nneeds b\nif always", -4);
        Due.dueRead("job a\nif always\njob b\nif always", 2);
        for (String well : new String[] {"always", "ok a", "bad a", "a=b", "not always", "( always )", "not ( ok a )",
                "always or always", "always and always or not ok a and ( bad b or c=d )", "ok ok", "bad and and ok or",
                "ok not or bad always", "always=ok", "ok b or bad ok and not=not", "( not ( not a=b ) )"}) {
            dueCondition(well, true);
        }
        for (String ill : new String[] {"", "a", "ok", "bad", "not", "and", "or", "(", ")", "( )", "always always",
                "ok a b", "a=b c=d", "always or", "always and", "or always", "and always", "always or or always",
                "always not", "( always", "always )", "( always ) )", "(always)", "not ( always", "ok ( a )", "ok a=b",
                "ok )", "always ( always )", "always or and always", "( always ) always", "Always", "ok A", "a=B",
                "always and not", "( ok )", "not and always", "ok abcdefghi", "() always", "( or )", "( always always",
                "( always ok", "not ( a=b b=c )"}) {
            dueCondition(ill, false);
        }
        dueCondition("always" + Due.times(" or always", 9), true);
        dueCondition("always" + Due.times(" or always", 9) + " or", false);
        dueCondition("not always" + Due.times(" and always", 9), true);
        dueCondition("not always" + Due.times(" and always", 8) + " or ok a", false);
        dueCondition("not not always" + Due.times(" and always", 9), false);
        dueCondition("always" + Due.times(" or always", 10), false);
        dueCondition("ok a" + Due.times(" or ok a", 6), true);
        dueCondition("( always )" + Due.times(" or a=b", 8) + " or", false);
    }

    private static void nesting() {
        dueCondition(Due.times("not ", 6) + "always", true);
        dueCondition(Due.times("not ", 7) + "always", false);
        dueCondition(Due.times("( ", 6) + "always" + Due.times(" )", 6), true);
        dueCondition(Due.times("( ", 7) + "always" + Due.times(" )", 7), false);
        dueCondition(Due.times("not ( ", 3) + "always" + Due.times(" )", 3), true);
        dueCondition("not not ( not ( not not always ) )", false);
        dueCondition("not not ( not ( not always ) )", true);
        dueCondition("not not not always and not not not always", true);
        dueCondition("not not not not not not ok a or not not not not not not ok a", true);
        dueCondition("not ( always ) and not ( always or not always ) and not always", true);
        dueCondition("( ( ( ( ( always ) ) ) ) and not not always )", true);
        dueCondition("( ( ( ( always or not not not always ) ) ) )", false);
    }

    private static void illLeavesNothing() {
        PipelineText x = Due.reading("job a\nneeds zz\nuse p\npart p\nuse p");
        Due.due("check before", x.check(), 1);
        Due.due("read of an ILL one", Due.read(x, "job a\nneeds zz\njob b\npart q\nuse r\nx"), -6);
        Due.due("job after ILL", x.job(0, 0), -1);
        Due.due("check after ILL", x.check(), 0);
        Due.due("culprit after ILL", x.culprit(), -1);
        Due.due("expand after ILL", x.expand(99), 0);
        Due.due("the tape was used up by ILL", x.read(), 0);
        Due.due("read anew", Due.read(x, "job a\nif ok a"), 1);
        Due.due("job read anew has no needs", x.job(0, 0), 0);
        Due.due("job read anew", x.job(0, 5), 1);
        Due.due("read anew", Due.read(x, "job a"), 1);
        Due.due("the condition went", x.job(0, 5), 0);
    }
}
