/** Boundary cases of LINES, WORDS, NAMES, PAIRS, of what begins and of ILL ones: the Terms, and promise 3. */
public final class EdgeLineTest {
    private static final String[] NAMES = {"a", "z", "0", "9", "az09", "abcdefg", "abcdefgh", "12345678"};
    private static final String[] NO_NAMES = {"abcdefghi", "123456789", "abcdefghabcdefgh", "`", "{", "/", ":", "@",
            "[", "A", "Z", "aZ", "Za", "a-b", "a_", "$a", "a=b=c", "=", "~", "!"};
    // Every place of a NAME alone, and of a NAME in a PAIR; # stands for it.
    private static final String[] PLACES = {"needs #", "needs b #", "use #", "axis # v", "axis n #", "axis n v #",
            "include #=v", "include n=#", "include m=v #=v", "exclude #=v", "exclude n=#", "if ok #", "if bad #",
            "if #=v", "if n=#", "if not ( always and n=# )"};

    public static void main(String[] args) {
        numberedFromZero();
        endedByTen();
        separatedByBlanks();
        withoutWords();
        names();
        pairs();
        jobAndPart();
        twelveJobs();
        eightParts();
        noTwoOfOneName();
        belongToWhatBeganLast();
        jobsAlone();
        textBeforeGoes();
        firstIll();
        nothingAfterIll();
        howManyJobs();
        lessTheIllLine();
        Due.end();
    }

    private static void numberedFromZero() {
        Due.sentence("Terms", "A TEXT has LINES, numbered from 0");
        Due.dueRead("x", -1);
        Due.dueRead("job a\nx", -2);
        Due.dueRead("job a\nstep b\nx", -3);
        Due.dueRead(Due.times("\n", 698) + "x\n", -699);
        Due.dueRead(Due.times("\n", 699) + "x", -700);
    }

    private static void endedByTen() {
        Due.sentence("Terms", "each ended by 10, or the text's end, so that a 10 at the end begins none more");
        Due.dueRead("x\n", -1);
        Due.dueRead("job a\nx", -2);
        Due.dueRead("job a\nx\n", -2);
        Due.dueRead("job a\nx\n\n", -2);
        Due.dueRead("job a", 1);
        Due.dueRead("job a\n", 1);
        Due.dueRead("job a\n\n", 1);
        Due.dueRead("", 0);
        Due.dueRead("\n", 0);
        Due.dueRead(Due.times("\n", 700), 0);
        PipelineText x = Due.expanding("job a\nstep last", 1);
        Due.due("a step at the text's end", Due.steps(x, 0), "last");
        PipelineText y = Due.expanding("job a\nstep last\n", 1);
        Due.due("a step ended by 10", Due.steps(y, 0), "last");
    }

    private static void separatedByBlanks() {
        Due.sentence("Terms", "WORDS in a LINE are separated by blanks");
        Due.dueRead("joba", -1);
        Due.dueRead("job a", 1);
        Due.dueRead("job  a", 1);
        Due.dueRead(" job a", 1);
        Due.dueRead("job a ", 1);
        Due.dueRead("job" + Due.times(" ", 696) + "a", 1);
        Due.dueRead("job a b", -1);
        Due.dueRead("job\na", -1);
        Due.dueRead("job \na", -1);
        Due.dueRead("job a\njobb", -2);
        PipelineText x = Due.expanding("job a\nstep a  b   c d\nstep e", 1);
        Due.due("words of steps", Due.steps(x, 0), "a b c d|e");
    }

    private static void withoutWords() {
        Due.sentence("Terms", "a LINE without WORDS is nothing");
        Due.dueRead(" ", 0);
        Due.dueRead(Due.times(" ", 700), 0);
        Due.dueRead("\n \n  \n", 0);
        Due.dueRead("\n\nx", -3);
        Due.dueRead(" \n  \nx", -3);
        Due.dueRead("\njob a\n\n \nstep b\n\nx", -7);
        PipelineText x = Due.reading("\n \njob a\n\nstep b\n  \n\nneeds c\n");
        Due.due("counts of a job with empty lines", Due.counts(x, 0), "1 0 0 0 1 0");
    }

    private static void names() {
        Due.sentence("Terms", "A NAME is a WORD of 1 to 8 letters a .. z and digits");
        for (String name : NAMES) {
            Due.dueRead("job " + name, 1);
            Due.dueRead("part " + name, 0);
            for (String place : PLACES) {
                Due.dueRead("job a\n" + place.replace("#", name), 1);
            }
        }
        for (String no : NO_NAMES) {
            Due.dueRead("job " + no, -1);
            Due.dueRead("part " + no, -1);
            for (String place : PLACES) {
                Due.dueRead("job a\n" + place.replace("#", no), -2);
            }
        }
        PipelineText x = Due.reading("job a\nneeds abcdefgh abcdefg bcdefgh\njob abcdefgh\njob bcdefgh\njob abcdefg");
        Due.due("a NAME of 8", x.needs(0, 0), 1);
        Due.due("a NAME of 7, the first ones", x.needs(0, 1), 3);
        Due.due("a NAME of 7, the last ones", x.needs(0, 2), 2);
    }

    private static void pairs() {
        Due.sentence("Terms", "a PAIR is a NAME, = and a NAME at once");
        for (String place : new String[] {"include #", "exclude #", "include m=v #", "if #", "if not ( # )"}) {
            Due.dueRead("job a\n" + place.replace("#", "a=b"), 1);
            Due.dueRead("job a\n" + place.replace("#", "abcdefgh=12345678"), 1);
            for (String no : new String[] {"a", "a=", "=b", "=", "==", "a==b", "a=b=", "=a=b", "a=b=c", "a =b", "a= b",
                    "a = b", "a:b", "ab", "abcdefghi=a", "a=abcdefghi"}) {
                Due.dueRead("job a\n" + place.replace("#", no), -2);
            }
        }
    }

    private static void jobAndPart() {
        Due.sentence("Terms", "job NAME: a JOB begins. part NAME: a PART begins.");
        Due.dueRead("job", -1);
        Due.dueRead("job a", 1);
        Due.dueRead("job a b", -1);
        Due.dueRead("part", -1);
        Due.dueRead("part a", 0);
        Due.dueRead("part a b", -1);
        Due.dueRead("jobs a", -1);
        Due.dueRead("jo a", -1);
        Due.dueRead("Job a", -1);
        Due.dueRead("parts a", -1);
        Due.dueRead("par a", -1);
    }

    private static void twelveJobs() {
        Due.sentence("Terms", "At most 12 JOBS");
        Due.dueRead(Due.numbered("job j#\n", 11), 11);
        Due.dueRead(Due.numbered("job j#\n", 12), 12);
        Due.dueRead(Due.numbered("job j#\n", 13), -13);
        Due.dueRead(Due.numbered("job j#\npart p#\n", 8) + Due.numbered("job k#\n", 4), 12);
        Due.dueRead(Due.numbered("job j#\npart p#\n", 8) + Due.numbered("job k#\n", 5), -21);
        PipelineText x = Due.expanding(Due.numbered("job j#\nstep s#\n", 12) + "needs j0", 12);
        Due.due("the last job", Due.counts(x, 11), "1 0 0 0 1 0");
        Due.due("whom the last job needs", x.needs(11, 0), 0);
        Due.due("the last job's step", Due.steps(x, 11), "s11");
        Due.due("none behind it", x.job(12, 0), -1);
    }

    private static void eightParts() {
        Due.sentence("Terms", "8 PARTS");
        Due.dueRead(Due.numbered("part p#\n", 7), 0);
        Due.dueRead(Due.numbered("part p#\n", 8), 0);
        Due.dueRead(Due.numbered("part p#\n", 9), -9);
        Due.dueRead(Due.numbered("job j#\n", 12) + Due.numbered("part p#\n", 8), 12);
        Due.dueRead(Due.numbered("job j#\n", 12) + Due.numbered("part p#\n", 9), -21);
        PipelineText x = Due.expanding(Due.numbered("part p#\nstep s#\n", 8) + "job a\nuse p0\nuse p7\nuse p6", 1);
        Due.due("steps of the first and last parts", Due.steps(x, 0), "s0|s7|s6");
    }

    private static void noTwoOfOneName() {
        Due.sentence("Terms", "no two JOBS, no two PARTS of one NAME");
        Due.dueRead("job a\njob a", -2);
        Due.dueRead("part a\npart a", -2);
        Due.dueRead("job a\njob b\njob a", -3);
        Due.dueRead("part a\npart b\npart a", -3);
        Due.dueRead(Due.numbered("job j#\n", 11) + "job j0", -12);
        Due.dueRead(Due.numbered("job j#\n", 11) + "job j10", -12);
        Due.dueRead(Due.numbered("part p#\n", 7) + "part p0", -8);
        Due.dueRead(Due.numbered("part p#\n", 7) + "part p6", -8);
        Due.dueRead("job a\npart a", 1);
        Due.dueRead("part a\njob a\npart b\njob b", 2);
        Due.dueRead("job a\njob aa\njob aaa\njob abcdefgh\njob abcdefg\njob bcdefgh", 6);
        Due.dueRead("job abcdefgh\njob abcdefgh", -2);
    }

    private static void belongToWhatBeganLast() {
        Due.sentence("Terms", "Other LINES belong to what began last");
        for (String line : new String[] {"step a", "use a", "needs a", "axis a b", "include a=b", "exclude a=b",
                "if always", "other a"}) {
            Due.dueRead(line, -1);
            Due.dueRead(line + "\njob a", -1);
        }
        PipelineText x = Due.expanding("job a\nstep a1\npart p\nstep p1\njob b\nstep b1\nuse p\npart q\nstep q1\n"
                + "part r\nstep r1\njob c\nuse q\nuse r\nstep c1", 3);
        Due.due("steps of a", Due.steps(x, 0), "a1");
        Due.due("steps of b", Due.steps(x, 1), "b1|p1");
        Due.due("steps of c", Due.steps(x, 2), "q1|r1|c1");
        PipelineText y = Due.reading("job a\njob b\nneeds a\naxis x 1\ninclude x=1\nexclude x=1\nif always\njob c");
        Due.due("the one before", Due.counts(y, 0), "0 0 0 0 0 0");
        Due.due("the one that began last", Due.counts(y, 1), "1 1 1 1 0 1");
        Due.due("the one behind", Due.counts(y, 2), "0 0 0 0 0 0");
    }

    private static void jobsAlone() {
        Due.sentence("Terms", "In JOBS alone: needs .. axis .. include .. exclude .. if");
        for (String line : new String[] {"needs a", "axis a b", "include a=b", "exclude a=b", "if always"}) {
            Due.dueRead("job a\n" + line, 1);
            Due.dueRead("part a\n" + line, -2);
            Due.dueRead("job a\npart a\n" + line, -3);
            Due.dueRead("part a\njob a\n" + line, 1);
        }
        for (String line : new String[] {"step a", "use a"}) {
            Due.dueRead("job a\n" + line, 1);
            Due.dueRead("part a\n" + line, 0);
        }
        for (String line : new String[] {"steps a", "ste a", "uses a", "need a", "axes a b", "includes a=b", "in a=b",
                "excludes a=b", "iff always", "i always", "a", "a=b", "("}) {
            Due.dueRead("job a\n" + line, -2);
            Due.dueRead("part a\n" + line, -2);
        }
    }

    private static void textBeforeGoes() {
        Due.sentence("Terms", "READING: the text before goes.");
        PipelineText x = Due.reading("job a\nneeds b\naxis x 1 2\ninclude y=1\nexclude x=1\nstep s\nif always\njob b\n"
                + "part p\nstep t");
        Due.due("read of a job alone", Due.read(x, "job a"), 1);
        Due.due("all that it had went", Due.counts(x, 0), "0 0 0 0 0 0");
        Due.due("the other job went", x.job(1, 0), -1);
        Due.due("expand", x.expand(1), 1);
        Due.due("no pairs, no steps", x.expanded(0, 1) + x.expanded(0, 2), 0);
        Due.due("read of one that uses the part", Due.read(x, "job a\nuse p"), 1);
        Due.due("the part went", x.check(), 2);
        Due.due("read of the empty tape", x.read(), 0);
        Due.due("the job went", x.job(0, 0), -1);
        Due.due("the fault went", x.check(), 0);
    }

    private static void firstIll() {
        Due.sentence("Terms", "ILL is the first LINE that isn't so");
        Due.dueRead("x\ny", -1);
        Due.dueRead("job a\nx\ny", -2);
        Due.dueRead("job a\nstep\njob a\npart p\nneeds b", -2);
        Due.dueRead("job a\nneeds b\nstep c\nneeds b\nx", -4);
        Due.dueRead("step a\njob a", -1);
        Due.dueRead(Due.numbered("job j#\n", 14) + "x", -13);
    }

    private static void nothingAfterIll() {
        Due.sentence("Terms", "there are no JOBS and no PARTS then");
        PipelineText x = Due.expanding("job a\njob b\nneeds a\npart p\nstep s", 2);
        Due.due("read of an ILL one", Due.read(x, "job a\nneeds zz\npart q\nuse q\njob b\nx"), -6);
        Due.due("no job of it", Due.counts(x, 0), "-1 -1 -1 -1 -1 -1");
        Due.due("no job of before", x.job(1, 0), -1);
        Due.due("nothing is needed", x.needs(0, 0), -1);
        Due.due("no fault", x.check(), 0);
        Due.due("no culprit", x.culprit(), -1);
        Due.due("none expanded of before", x.expanded(0, 0), -1);
        Due.due("expand", x.expand(0), 0);
        Due.due("read of one that uses the parts", Due.read(x, "job c\nuse q"), 1);
        Due.due("no part of the ILL one", x.check(), 2);
        Due.due("an ILL one that begins with a part", Due.read(x, "part q\njob c\nx"), -3);
        Due.due("read of one that uses it", Due.read(x, "job c\nuse q"), 1);
        Due.due("no part of that", x.check(), 2);
    }

    private static void howManyJobs() {
        Due.sentence("Promise 3", "how many JOBS there are");
        Due.dueRead("", 0);
        Due.dueRead("part p", 0);
        Due.dueRead("job a", 1);
        Due.dueRead("job a\npart p\njob b", 2);
        Due.dueRead(Due.numbered("job j#\n", 12) + "needs nobody\nuse nothing", 12);
    }

    private static void lessTheIllLine() {
        Due.sentence("Promise 3", "- 1 less the LINE that is ILL");
        Due.dueRead("x", -1);
        Due.dueRead("\nx", -2);
        Due.dueRead(Due.numbered("job j#\n", 12) + "x", -13);
        Due.dueRead(Due.times("\n", 699) + "x", -700);
        PipelineText x = new PipelineText();
        for (int lines = 0; lines < 20; lines++) {
            Due.due("ILL at " + lines, Due.read(x, Due.times("\n", lines) + "job"), -1 - lines);
        }
    }
}
