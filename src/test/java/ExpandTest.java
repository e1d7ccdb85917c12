/** Promises 9, 10 and 11: expand, expanded, pair. */
public final class ExpandTest {
    private static final int[] FAR = {Integer.MIN_VALUE, -2, -1, 1600, 100000, Integer.MAX_VALUE};

    public static void main(String[] args) {
        combinations();
        excludes();
        includes();
        bounds();
        faults();
        told();
        wrongNumbers();
        pairCharacters();
        most();
        Due.end();
    }

    private static void combinations() {
        Due.dueCombinations("", "");
        Due.dueCombinations("part p\nstep a", "");
        Due.dueCombinations("job a", "0:");
        Due.dueCombinations("job a\nexclude x=1", "0:");
        Due.dueCombinations("job a\njob b\naxis x 2 1\njob c", "0:, 1:x=2, 1:x=1, 2:");
        Due.dueCombinations("job a\naxis y 3 1 2\naxis x b a", "0:y=3 x=b, 0:y=3 x=a, 0:y=1 x=b, 0:y=1 x=a, "
                + "0:y=2 x=b, 0:y=2 x=a");
        Due.dueCombinations("job a\naxis z 1 2\naxis y 1\naxis x 1 2", "0:z=1 y=1 x=1, 0:z=1 y=1 x=2, 0:z=2 y=1 x=1, "
                + "0:z=2 y=1 x=2");
        Due.dueCombinations("job a\naxis long5678 val45678\naxis l v", "0:long5678=val45678 l=v");
    }

    private static void excludes() {
        String axes = "job a\naxis x 1 2\naxis y 1 2\n";
        Due.dueCombinations(axes + "exclude x=1", "0:x=2 y=1, 0:x=2 y=2");
        Due.dueCombinations(axes + "exclude y=2 x=1", "0:x=1 y=1, 0:x=2 y=1, 0:x=2 y=2");
        Due.dueCombinations(axes + "exclude y=2 x=1\nexclude x=2 y=1", "0:x=1 y=1, 0:x=2 y=2");
        Due.dueCombinations(axes + "exclude x=1 z=1\nexclude z=1\nexclude x=3\nexclude branch=b",
                "0:x=1 y=1, 0:x=1 y=2, 0:x=2 y=1, 0:x=2 y=2");
        Due.dueCombinations(axes + "exclude x=1\nexclude x=2\njob b", "1:");
        Due.dueCombinations(axes + "exclude x=1 y=1\nexclude x=1 y=2\nexclude x=2 y=1\nexclude x=2 y=2", "");
    }

    private static void includes() {
        String axes = "job a\naxis x 1 2\naxis y 1 2\n";
        String four = "0:x=1 y=1, 0:x=1 y=2, 0:x=2 y=1, 0:x=2 y=2";
        Due.dueCombinations("job a\ninclude x=1", "0:x=1");
        Due.dueCombinations("job a\ninclude x=1 y=2\ninclude y=2 x=1\ninclude x=1", "0:x=1 y=2, 0:x=1");
        Due.dueCombinations("job a\nexclude x=1\ninclude x=1", "0:x=1");
        Due.dueCombinations(axes + "include y=2 x=1", four);
        Due.dueCombinations(axes + "include y=2 x=1 z=1\ninclude x=1\ninclude y=3 x=1\ninclude q=1 r=1",
                four + ", 0:y=2 x=1 z=1, 0:x=1, 0:y=3 x=1, 0:q=1 r=1");
        Due.dueCombinations(axes + "exclude y=2\ninclude y=2 x=1\ninclude x=1 y=2\ninclude x=1 y=1",
                "0:x=1 y=1, 0:x=2 y=1, 0:y=2 x=1");
        Due.dueCombinations(axes + "include x=3 y=1\ninclude y=1 x=3\ninclude x=1 z=1\ninclude z=1 x=1",
                four + ", 0:x=3 y=1, 0:x=1 z=1");
        Due.dueCombinations("job a\ninclude a=1 b=2 c=3 d=4\ninclude d=4 c=3 b=2 a=1\ninclude d=4 c=3 b=2 a=2\njob b\n"
                + "include a=1 b=2 c=3 d=4", "0:a=1 b=2 c=3 d=4, 0:d=4 c=3 b=2 a=2, 1:a=1 b=2 c=3 d=4");
        Due.dueCombinations("job a\naxis x 1\naxis y 1\nexclude x=1\ninclude x=1\ninclude y=1", "0:x=1, 0:y=1");
    }

    private static void bounds() {
        PipelineText x = Due.reading("job a\naxis x 1 2 3\njob b\ninclude x=1\ninclude x=2");
        Due.due("expand(4)", x.expand(4), -1);
        Due.due("none are there", x.expanded(0, 0), -1);
        Due.due("expand(5)", x.expand(5), 5);
        Due.due("the last", x.expanded(4, 0), 1);
        Due.due("expand(0)", x.expand(0), -1);
        Due.due("none are there anew", x.expanded(0, 0), -1);
        Due.due("no pair is there", x.pair(0, 0, 0), -1);
        Due.due("none wants", x.wants(0, -1), false);
        Due.due("expand of the most", x.expand(Integer.MAX_VALUE), 5);
        Due.due("expand of the least", x.expand(Integer.MIN_VALUE), -1);
        PipelineText none = Due.reading("job a\naxis x 1\nexclude x=1");
        Due.due("none within 0", none.expand(0), 0);
        Due.due("none is more than -1", none.expand(-1), -1);
    }

    private static void faults() {
        for (String text : new String[] {"job a\nneeds b", "job a\nif ok b", "job a\nuse p", "job a\npart p\nuse p",
                "job a\nneeds a"}) {
            PipelineText x = Due.reading("job a");
            Due.due("expand without a fault", x.expand(1), 1);
            Due.read(x, text);
            Due.due("expand with a fault", x.expand(9), 0);
            Due.due("expand with a fault by 0", x.expand(0), 0);
            Due.due("none are there with a fault", x.expanded(0, 0), -1);
        }
    }

    private static void told() {
        PipelineText x = Due.reading("job a\naxis x 1 2");
        Due.due("none are there before expand", x.expanded(0, 0), -1);
        Due.due("expand(2)", x.expand(2), 2);
        x.check();
        x.culprit();
        Due.put(x, "job b\njob c");
        Due.due("still told", Due.pairs(x, 1), "x=2");
        Due.due("read", x.read(), 2);
        Due.due("none are told after reading", x.expanded(0, 0), -1);
        Due.due("none wants after reading", x.wants(0, 0), false);
        Due.due("expand anew", x.expand(2), 2);
        Due.due("an ILL text", Due.read(x, "x"), -1);
        Due.due("none are told after an ILL text", x.expanded(0, 0), -1);
    }

    private static void wrongNumbers() {
        PipelineText x = Due.reading("job a\naxis x 1 2\nstep a");
        Due.due("expand(2)", x.expand(2), 2);
        Due.due("expanded(2, 0)", x.expanded(2, 0), -1);
        Due.due("pair(2, 0, 0)", x.pair(2, 0, 0), -1);
        for (int what : new int[] {Integer.MIN_VALUE, -1, 3, 4, Integer.MAX_VALUE}) {
            Due.due("expanded(0, " + what + ")", x.expanded(0, what), -1);
        }
        for (int far : FAR) {
            for (int what = -1; what < 4; what++) {
                Due.due("expanded(" + far + ", " + what + ")", x.expanded(far, what), -1);
            }
            Due.due("pair(" + far + ", 0, 0)", x.pair(far, 0, 0), -1);
            Due.due("pair(0, " + far + ", 0)", x.pair(0, far, 0), -1);
            Due.due("pair(0, 0, " + far + ")", x.pair(0, 0, far), -1);
        }
        Due.due("pair(0, 1, 0)", x.pair(0, 1, 0), -1);
        Due.due("pair(0, 0, 3)", x.pair(0, 0, 3), -1);
    }

    private static void pairCharacters() {
        PipelineText x = Due.reading("job a\naxis abcdefgh 12345678 9\naxis b c\ninclude z=1 y=22 x=333 w=4444");
        Due.due("expand(3)", x.expand(3), 3);
        Due.due("pair of 17 characters", Due.pair(x, 0, 0), "abcdefgh=12345678");
        Due.due("pair(0, 0, 17)", x.pair(0, 0, 17), -1);
        Due.due("pair(0, 0, 16)", x.pair(0, 0, 16), '8');
        Due.due("pair(0, 0, 8)", x.pair(0, 0, 8), '=');
        Due.due("pair of another value", Due.pair(x, 1, 0), "abcdefgh=9");
        Due.due("pairs of an include", Due.pairs(x, 2), "z=1 y=22 x=333 w=4444");
        Due.due("pairs of the first again", Due.pairs(x, 0), "abcdefgh=12345678 b=c");
        Due.due("how many pairs", x.expanded(0, 1), 2);
        Due.due("how many pairs of an include", x.expanded(2, 1), 4);
        Due.due("pair(2, 4, 0)", x.pair(2, 4, 0), -1);
        Due.due("pair(0, 2, 0) after an include", x.pair(0, 2, 0), -1);
    }

    private static void most() {
        StringBuilder text = new StringBuilder();
        for (char j = 'a'; j <= 'l'; j++) {
            text.append("job ").append(j).append('\n');
            for (char axis = 'x'; axis <= 'z'; axis++) {
                text.append("axis ").append(axis).append(" 1 2 3 4 5\n");
            }
        }
        text.append("include a=b\n");
        PipelineText x = Due.reading(text.toString());
        Due.due("expand(1500)", x.expand(1500), -1);
        Due.due("expand(1501)", x.expand(1501), 1501);
        Due.due("pairs of 1499", Due.pairs(x, 1499), "x=5 y=5 z=5");
        Due.due("pairs of 1498", Due.pairs(x, 1498), "x=5 y=5 z=4");
        Due.due("pairs of 130", Due.pairs(x, 130), "x=1 y=2 z=1");
        Due.due("pairs of 1500", Due.pairs(x, 1500), "a=b");
        Due.due("job of 1500", x.expanded(1500, 0), 11);
        Due.due("job of 124", x.expanded(124, 0), 0);
        Due.due("job of 125", x.expanded(125, 0), 1);
        Due.due("job of 1501", x.expanded(1501, 0), -1);
        PipelineText one = Due.reading("job a\naxis x 1 2 3 4 5\naxis y 1 2 3 4 5\naxis z 1 2 3 4 5\ninclude x=1\n"
                + "include x=2\ninclude x=3\ninclude x=4");
        Due.due("expand(128)", one.expand(128), -1);
        Due.due("expand(129)", one.expand(129), 129);
    }
}
