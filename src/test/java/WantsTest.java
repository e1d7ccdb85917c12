/** Promise 13: wants. */
public final class WantsTest {
    public static void main(String[] args) {
        needs();
        outcomes();
        joined();
        pairs();
        branches();
        wrongNumbers();
        Due.end();
    }

    private static void needs() {
        PipelineText x = Due.expanding("job a\njob b\nneeds a\njob c\nneeds b a\njob d\nneeds c\nif bad a", 4);
        for (int outcomes = 0; outcomes < 256; outcomes++) {
            boolean a = (outcomes & 1) != 0;
            boolean b = (outcomes & 4) != 0;
            Due.due("wants(0, " + outcomes + ")", x.wants(0, outcomes), true);
            Due.due("wants(1, " + outcomes + ")", x.wants(1, outcomes), a);
            Due.due("wants(2, " + outcomes + ")", x.wants(2, outcomes), a && b);
            Due.due("wants(3, " + outcomes + ")", x.wants(3, outcomes), (outcomes & 2) != 0);
            Due.due("wants(1, " + ~outcomes + ")", x.wants(1, ~outcomes), !a);
        }
    }

    private static void outcomes() {
        StringBuilder text = new StringBuilder();
        for (int j = 0; j < 12; j++) {
            text.append("job j").append(j).append("\nif ").append(j % 2 == 0 ? "ok j" : "bad j").append(11 - j)
                    .append('\n');
        }
        PipelineText x = Due.expanding(text.toString(), 12);
        for (int j = 0; j < 12; j++) {
            int bit = 2 * (11 - j) + j % 2;
            Due.due("wants with just the bit of " + j, x.wants(j, 1 << bit), true);
            Due.due("wants without the bit of " + j, x.wants(j, ~(1 << bit)), false);
            Due.due("wants with none of " + j, x.wants(j, 0), false);
            Due.due("wants with all of " + j, x.wants(j, -1), true);
        }
    }

    /** What a CONDITION over the JOBS a, b, c is due to answer for each of the eight ways in which they are ok. */
    private static void dueJoined(String condition, String want) {
        PipelineText x = Due.expanding("job a\njob b\njob c\njob d\nif " + condition, 4);
        StringBuilder got = new StringBuilder();
        for (int way = 0; way < 8; way++) {
            int outcomes = (way >> 2 & 1) | (way >> 1 & 1) << 2 | (way & 1) << 4;
            got.append(x.wants(3, outcomes) ? '1' : '0');
        }
        Due.due("wants by " + condition, got.toString(), want);
    }

    private static void joined() {
        dueJoined("always", "11111111");
        dueJoined("not always", "00000000");
        dueJoined("ok a", "00001111");
        dueJoined("not ok a", "11110000");
        dueJoined("ok a and ok b", "00000011");
        dueJoined("ok a or ok b", "00111111");
        dueJoined("ok a or ok b and ok c", "00011111");
        dueJoined("ok a and ok b or ok c", "01010111");
        dueJoined("( ok a or ok b ) and ok c", "00010101");
        dueJoined("ok a and ( ok b or ok c )", "00000111");
        dueJoined("not ok a and ok b", "00110000");
        dueJoined("not ( ok a and ok b )", "11111100");
        dueJoined("not not ok a", "00001111");
        dueJoined("not not not ( not ok a or ok b )", "00001100");
        dueJoined("ok a or ok b or ok c", "01111111");
        dueJoined("ok a and ok b and ok c", "00000001");
        dueJoined("ok a and not ok b or not ok a and ok b", "00111100");
        dueJoined("not not not not not not ok a or ( ( ( not ok b ) ) )", "11001111");
        dueJoined("always and always and always and always and always and always and always and ok a and not ok b",
                "00001100");
        dueJoined("bad a or ( ok b and ( ok c or ( not ok a ) ) )", "00110001");
        dueJoined("bad a or always and not always or bad b", "00000000");
    }

    private static void pairs() {
        PipelineText x = Due.expanding("job a\naxis os lin mac\naxis v 1 2\ninclude v=2 x=y\n"
                + "if os=lin and v=2 or x=y", 5);
        boolean[] want = {false, true, false, false, true};
        for (int i = 0; i < want.length; i++) {
            Due.due("wants(" + i + ", 0)", x.wants(i, 0), want[i]);
        }
        PipelineText y = Due.expanding("job a\naxis x 1\nif x=11\njob b\naxis x 1\nif y=1\njob c\nif not z=1", 3);
        Due.due("another value", y.wants(0, -1), false);
        Due.due("another name", y.wants(1, -1), false);
        Due.due("not a pair", y.wants(2, 0), true);
    }

    private static void branches() {
        PipelineText x = Due.expanding("job a\nif branch=main\njob b\naxis branch main dev\nif branch=main\njob c\n"
                + "if branch1=main\njob d\nif not branch=main\njob e\ninclude branch=q\nif branch=main or branch=q\n"
                + "job f\ninclude x=main\nif x=main and branch=main\njob g\naxis x 1\nif bran=main or hcnarb=main", 8);
        dueWants(x, "no branch", "01001100");
        Due.put(x, "main");
        Due.due("branch main", x.branch(), true);
        dueWants(x, "main", "11000110");
        Due.put(x, "dev");
        Due.due("branch dev", x.branch(), true);
        dueWants(x, "dev", "01001100");
        Due.put(x, "mainmain");
        Due.due("branch mainmain", x.branch(), true);
        dueWants(x, "mainmain", "01001100");
        Due.due("branch of an empty tape", x.branch(), false);
        dueWants(x, "empty", "01001100");
    }

    private static void dueWants(PipelineText x, String branch, String want) {
        StringBuilder got = new StringBuilder();
        for (int i = 0; i < want.length(); i++) {
            got.append(x.wants(i, 0) ? '1' : '0');
        }
        Due.due("wants with " + branch, got.toString(), want);
    }

    private static void wrongNumbers() {
        PipelineText x = Due.expanding("job a\nif always\njob b", 2);
        for (int far : new int[] {Integer.MIN_VALUE, -1, 2, 1548, Integer.MAX_VALUE}) {
            Due.due("wants(" + far + ", -1)", x.wants(far, -1), false);
        }
        Due.due("wants(1, 0)", x.wants(1, 0), true);
        PipelineText y = Due.reading("job a\nif always");
        Due.due("wants before expand", y.wants(0, 0), false);
        Due.due("expand", y.expand(0), -1);
        Due.due("wants beyond the bound", y.wants(0, 0), false);
    }
}
