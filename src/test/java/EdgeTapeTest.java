/** Boundary cases of THE TAPE and the BRANCH: the Terms' sentences on it, and promises 1, 2 and 4. */
public final class EdgeTapeTest {
    private static final int[] NOT_TAKEN = {1, 9, 11, 13, 31, 127, 128, 159, 255};

    public static void main(String[] args) {
        firstAndLastCharacters();
        sevenHundred();
        readingUsesItUp();
        newObject();
        highestByteFirst();
        zerosLeftOut();
        oneThatCannotCome();
        moreThanFit();
        branchEmptiesTheTape();
        noName();
        lastCall();
        Due.end();
    }

    private static void firstAndLastCharacters() {
        Due.sentence("Terms", "THE TAPE takes characters 10, 32 .. 126");
        PipelineText x = new PipelineText();
        Due.due("text of 10", x.text(10L), true);
        Due.due("text of 32", x.text(32L), true);
        Due.put(x, "job a\nstep ");
        Due.due("text of 33", x.text(33L), true);
        Due.due("text of 125", x.text(125L), true);
        Due.due("text of 126", x.text(126L), true);
        for (int c : NOT_TAKEN) {
            Due.due("text of " + c, x.text(c), false);
            Due.due("text of " + c + " as the highest byte", x.text((long) c << 56), false);
        }
        Due.due("read", x.read(), 1);
        Due.due("expand", x.expand(1), 1);
        Due.due("the step", Due.step(x, 0, 0), "!}~");
    }

    private static void sevenHundred() {
        Due.sentence("Terms", "at most 700");
        PipelineText x = new PipelineText();
        Due.put(x, "job a\nstep " + Due.times("x", 687));
        Due.due("the 699th", x.text('y'), true);
        Due.due("the 700th", x.text('z'), true);
        Due.due("the 701st", x.text('w'), false);
        Due.due("the 701st, a blank", x.text(' '), false);
        Due.due("the 701st, a line's end", x.text('\n'), false);
        Due.due("read of 700", x.read(), 1);
        Due.due("expand", x.expand(1), 1);
        Due.due("the 699th in the step", x.step(0, 0, 687), 'y');
        Due.due("the 700th in the step", x.step(0, 0, 688), 'z');
        Due.due("none behind it", x.step(0, 0, 689), -1);
        Due.put(x, Due.times(" ", 692));
        Due.due("the 693rd to 700th at once", x.text(Due.packed("\njob abc")), true);
        Due.due("the 701st to 708th at once", x.text(Due.packed("\njob abc")), false);
        Due.due("read of 700 in two lines", x.read(), 1);
    }

    private static void readingUsesItUp() {
        Due.sentence("Terms", "reading uses it up");
        PipelineText x = new PipelineText();
        Due.due("read", Due.read(x, "job a\njob b"), 2);
        Due.due("read of the empty tape", x.read(), 0);
        Due.due("read of an ILL one", Due.read(x, "job a\nx\njob b"), -2);
        Due.due("read of the empty tape after an ILL one", x.read(), 0);
        Due.put(x, Due.times(" ", 700));
        Due.due("read of 700", x.read(), 0);
        Due.put(x, Due.times(" ", 694) + "jobs a");
        Due.due("read of 700 more", x.read(), -1);
        Due.due("read of what came since", Due.read(x, "job c"), 1);
    }

    private static void newObject() {
        Due.sentence("Promise 1", "No JOBS, an empty TAPE, an empty BRANCH.");
        PipelineText used = Due.expanding("job a\nneeds b\njob b\nstep x", 2);
        Due.put(used, "main");
        Due.due("branch of another object", used.branch(), true);
        Due.put(used, "left");
        PipelineText x = new PipelineText();
        Due.due("job(0, ..)", Due.counts(x, 0), "-1 -1 -1 -1 -1 -1");
        Due.due("needs(0, 0)", x.needs(0, 0), -1);
        Due.due("check", x.check(), 0);
        Due.due("culprit", x.culprit(), -1);
        Due.due("expanded before expand", x.expanded(0, 0), -1);
        Due.due("expand", x.expand(0), 0);
        Due.due("expanded", x.expanded(0, 0), -1);
        Due.due("wants", x.wants(0, -1), false);
        Due.due("read of the empty tape", x.read(), 0);
        Due.due("branch of the empty tape", new PipelineText().branch(), false);
        PipelineText full = new PipelineText();
        Due.put(full, "job a\nif branch=main or branch=left or branch=0" + Due.times(" ", 653));
        Due.due("one more than 700 in a new one", full.text(' '), false);
        Due.due("read of 700 in a new one", full.read(), 1);
        Due.due("expand", full.expand(1), 1);
        Due.due("wants by the empty branch", full.wants(0, -1), false);
        Due.due("the other one keeps its jobs", used.needs(0, 0), 1);
    }

    private static void highestByteFirst() {
        Due.sentence("Promise 2", "Up to eight characters come onto the TAPE, the highest byte first");
        PipelineText x = new PipelineText();
        Due.due("six characters", x.text(0x6a6f6220610aL), true);
        Due.due("eight characters, step abc", x.text(0x7374657020616263L), true);
        Due.due("one character", x.text(0x64L), true);
        Due.due("seven characters", x.text(0x65666768696a6bL), true);
        Due.due("read", x.read(), 1);
        Due.due("expand", x.expand(1), 1);
        Due.due("the step", Due.step(x, 0, 0), "abcdefghijk");
    }

    private static void zerosLeftOut() {
        Due.sentence("Promise 2", "0 ones left out");
        PipelineText x = new PipelineText();
        Due.due("none", x.text(0L), true);
        Due.due("nothing came", x.read(), 0);
        Due.due("0 between", x.text(0x6a006f0062002061L), true);
        Due.due("0 behind", x.text(0x0a73746570200000L), true);
        Due.due("the highest alone", x.text(0x7800000000000000L), true);
        Due.due("0 before and behind", x.text(0x0000007900000000L), true);
        Due.due("read", x.read(), 1);
        Due.due("expand", x.expand(1), 1);
        Due.due("the step", Due.step(x, 0, 0), "xy");
        Due.put(x, Due.times(" ", 699));
        Due.due("0 around the 700th", x.text(0x0000200000000000L), true);
        Due.due("none onto a full tape", x.text(0L), true);
        Due.due("0 around the 701st", x.text(0x0000200000000000L), false);
    }

    private static void oneThatCannotCome() {
        Due.sentence("Promise 2", "false, and none come, if one can't");
        for (int c : NOT_TAKEN) {
            for (int at = 0; at < 8; at++) {
                PipelineText x = new PipelineText();
                Due.put(x, "job a\nstep x");
                long seven = Due.packed("yyyyyyyy") & ~(255L << 8 * at);
                Due.due("text with " + c + " as byte " + at, x.text(seven | (long) c << 8 * at), false);
                Due.put(x, "z");
                Due.due("read", x.read(), 1);
                Due.due("expand", x.expand(1), 1);
                Due.due("the step after " + c + " as byte " + at, Due.step(x, 0, 0), "xz");
            }
        }
    }

    private static void moreThanFit() {
        Due.sentence("Promise 2", "false, and none come, .. or there would be more than 700");
        for (int room = 0; room <= 8; room++) {
            PipelineText x = new PipelineText();
            Due.put(x, "job a\nstep " + Due.times("x", 689 - room));
            for (int more = room + 1; more <= 8; more++) {
                Due.due(more + " for a room of " + room, x.text(Due.packed(Due.times("y", more))), false);
            }
            Due.due(room + " for a room of " + room, x.text(Due.packed(Due.times("z", room))), true);
            Due.due("one for no room", x.text('y'), false);
            Due.due("read", x.read(), 1);
            Due.due("expand", x.expand(1), 1);
            for (int k = 680; k < 689; k++) {
                Due.due("character " + k + " with a room of " + room, x.step(0, 0, k), k < 689 - room ? 'x' : 'z');
            }
            Due.due("none behind them", x.step(0, 0, 689), -1);
        }
    }

    private static void branchEmptiesTheTape() {
        Due.sentence("Promise 4", "The TAPE (which is empty then) becomes the BRANCH");
        PipelineText x = new PipelineText();
        Due.put(x, "main");
        Due.due("branch", x.branch(), true);
        Due.due("branch anew, of the empty tape", x.branch(), false);
        Due.put(x, Due.times("a", 700));
        Due.due("branch of 700", x.branch(), false);
        Due.put(x, "job a\nif branch=dev" + Due.times(" ", 681));
        Due.due("read of 700 after a branch of 700", x.read(), 1);
        Due.due("expand", x.expand(1), 1);
        Due.put(x, "dev");
        Due.due("branch dev", x.branch(), true);
        Due.due("wants with dev", x.wants(0, 0), true);
        Due.due("the tape is empty", x.read(), 0);
        Due.due("the branch outlives a reading", Due.read(x, "job a\nif branch=dev"), 1);
        Due.due("expand", x.expand(1), 1);
        Due.due("wants with dev still", x.wants(0, 0), true);
    }

    /** An object with the BRANCH old, that wants to run with old, or with the asked one. */
    private static void dueBranch(String tape, String asked, boolean want) {
        PipelineText x = Due.expanding("job a\nif branch=" + asked + "\njob b\nif branch=old", 2);
        Due.put(x, "old");
        Due.due("branch old", x.branch(), true);
        Due.due("wants with old", x.wants(1, 0), true);
        Due.put(x, tape);
        Due.due("branch of '" + tape + "'", x.branch(), want);
        Due.due("wants with '" + tape + "'", x.wants(0, 0), want);
        Due.due("wants with old after '" + tape + "'", x.wants(1, 0), false);
    }

    private static void noName() {
        Due.sentence("Promise 4", "false if it is no NAME (the BRANCH is empty then)");
        for (String name : new String[] {"a", "z", "0", "9", "abcdefg", "abcdefgh", "00000000"}) {
            dueBranch(name, name, true);
        }
        dueBranch("", "a", false);
        dueBranch("abcdefghi", "abcdefgh", false);
        dueBranch("aabcdefgh", "abcdefgh", false);
        dueBranch("abcdefghabcdefgh", "abcdefgh", false);
        for (String no : new String[] {" ", "\n", " a", "a ", "a\n", "\na", "a b", "a=b", "A", "aA", "`", "{", "/", ":",
                "@", "[", "$a", "-"}) {
            dueBranch(no, "a", false);
        }
    }

    private static void lastCall() {
        Due.sentence("What it is", "An object is used for at most 512 calls after it has been made");
        PipelineText x = new PipelineText();
        // Of the calls the last five are told apart: 507 before them, four for each of 126 readings and three more.
        for (int n = 0; n < 126; n++) {
            x.text(Due.packed("job a\n"));
            x.text(Due.packed("axis x 1"));
            Due.due("read " + n, x.read(), 1);
            Due.due("expand " + n, x.expand(1), 1);
        }
        x.text(Due.packed("job b\n"));
        x.text(Due.packed("axis x 1"));
        x.text(Due.packed(" 2"));
        Due.due("call 508, read", x.read(), 1);
        Due.due("call 509, check", x.check(), 0);
        Due.due("call 510, expand", x.expand(2), 2);
        Due.due("call 511, pair", x.pair(1, 0, 2), '2');
        Due.due("call 512, wants", x.wants(1, 0), true);
    }
}
