/** Promises 1, 2 and 4: a new object, text, branch. */
public final class TapeTest {
    public static void main(String[] args) {
        newObject();
        characters();
        order();
        fullTape();
        branch();
        branchKeepsThePlan();
        Due.end();
    }

    private static void newObject() {
        PipelineText x = new PipelineText();
        Due.due("job of a new object", x.job(0, 0), -1);
        Due.due("needs of a new object", x.needs(0, 0), -1);
        Due.due("check of a new object", x.check(), 0);
        Due.due("culprit of a new object", x.culprit(), -1);
        Due.due("expanded of a new object", x.expanded(0, 0), -1);
        Due.due("pair of a new object", x.pair(0, 0, 0), -1);
        Due.due("step of a new object", x.step(0, 0, 0), -1);
        Due.due("wants of a new object", x.wants(0, -1), false);
        Due.due("expand of a new object", x.expand(0), 0);
        Due.due("expand of a new object by less than none", x.expand(-1), -1);
        Due.due("branch of an empty tape", x.branch(), false);
        Due.due("read of an empty tape", x.read(), 0);
    }

    private static void characters() {
        for (int c = 0; c < 256; c++) {
            boolean may = c == 0 || c == 10 || c >= 32 && c <= 126;
            for (int shift = 0; shift < 64; shift += 8) {
                PipelineText x = new PipelineText();
                Due.due("text of " + c + " at " + shift, x.text((long) c << shift), may);
            }
        }
        PipelineText x = new PipelineText();
        Due.due("text with a wrong last one", x.text(Due.packed("job abc\t")), false);
        Due.due("text with a wrong first one", x.text(Due.packed("\u0080job a")), false);
        Due.due("text with a wrong middle one", x.text(Due.packed("jo\u007fb a")), false);
        Due.due("text of all ones", x.text(-1L), false);
        Due.due("nothing came", x.read(), 0);
    }

    private static void order() {
        PipelineText x = new PipelineText();
        Due.due("text with 0 between", x.text(0x6a006f0062002000L), true);
        Due.due("text of 0", x.text(0L), true);
        Due.due("text with 0 before", x.text(0x61L), true);
        Due.due("text with 0 behind", x.text(0x6200000000000000L), true);
        Due.due("read of job ab", x.read(), 1);
        Due.due("reading used the tape up", x.read(), 0);
        Due.due("the text before goes", x.job(0, 0), -1);
    }

    private static void fullTape() {
        PipelineText x = new PipelineText();
        Due.put(x, "job a" + Due.times(" ", 690));
        Due.due("six more than 695", x.text(Due.packed("\nabcde")), false);
        Due.due("a wrong one onto 695", x.text(Due.packed("\njo\u0001b")), false);
        Due.due("four more than 695", x.text(Due.packed("\njob")), true);
        Due.due("two more than 699", x.text(Due.packed(" b")), false);
        Due.due("one more than 699", x.text(Due.packed(" ")), true);
        Due.due("none more than 700", x.text(0L), true);
        Due.due("one more than 700", x.text(Due.packed("b")), false);
        Due.due("read of 700, a bare job last", x.read(), -2);
        Due.put(x, "job a\n" + Due.times(" ", 688) + "job bc");
        Due.due("one more than 700 anew", x.text(Due.packed("d")), false);
        Due.due("read of 700", x.read(), 2);
        Due.put(x, Due.times("\n", 699) + "x");
        Due.due("read of 700 lines", x.read(), -700);
    }

    private static void dueBranch(String tape, boolean want) {
        PipelineText x = Due.reading("job a\nif branch=main or branch=abcdefgh or branch=0z9");
        Due.due("expand", x.expand(1), 1);
        Due.due("wants before the branch", x.wants(0, 0), false);
        Due.put(x, tape);
        Due.due("branch of '" + tape + "'", x.branch(), want);
        Due.due("wants with the branch '" + tape + "'", x.wants(0, 0), want);
        Due.due("the branch used the tape up", x.read(), 0);
    }

    private static void branch() {
        dueBranch("main", true);
        dueBranch("abcdefgh", true);
        dueBranch("0z9", true);
        for (String no : new String[] {"", "abcdefghi", " main", "main ", "main\n", "\nmain", "Main", "ma in", "a=b",
                "main`", "main{", "main/", "main:", "$main", "abcdefghabcdefgh"}) {
            dueBranch(no, false);
        }
    }

    private static void branchKeepsThePlan() {
        PipelineText x = Due.reading("job a\nneeds b\njob b\nif branch=b1");
        Due.due("expand", x.expand(2), 2);
        Due.put(x, "b1");
        Due.due("branch", x.branch(), true);
        Due.due("needs after branch", x.needs(0, 0), 1);
        Due.due("expanded after branch", x.expanded(1, 0), 1);
        Due.due("wants after branch", x.wants(1, 0), true);
        Due.due("reading keeps the branch", Due.read(x, "job c\nif branch=b1"), 1);
        Due.due("expand", x.expand(1), 1);
        Due.due("wants with the branch of before", x.wants(0, 0), true);
        Due.put(x, "B1");
        Due.due("branch that is no NAME", x.branch(), false);
        Due.due("the branch is empty then", x.wants(0, 0), false);
    }
}
