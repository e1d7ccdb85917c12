/** What every test needs: answers compared with what is due, texts put onto the TAPE, characters gathered. */
final class Due {
    private static int wrong = 0;
    // The document's sentence that the calls now made are to hold to; told with every wrong answer.
    private static String sentence = "";
    private static int sentences = 0;
    // Reads one text after another, so that what an earlier one left behind would show.
    private static final PipelineText USED = new PipelineText();

    private Due() {
    }

    /** From here on the answers are due by this sentence of the document. */
    static void sentence(String place, String words) {
        sentence = place + ", \"" + words + "\": ";
        sentences++;
    }

    static void due(String call, long got, long want) {
        if (got != want) {
            wrong++;
            System.out.println(sentence + call + " answered " + got + ", due is " + want);
        }
    }

    static void due(String call, boolean got, boolean want) {
        due(call, got ? 1 : 0, want ? 1 : 0);
    }

    static void due(String call, String got, String want) {
        if (!got.equals(want)) {
            wrong++;
            System.out.println(sentence + call + " answered '" + got + "', due is '" + want + "'");
        }
    }

    static void end() {
        System.out.print(sentences == 0 ? "" : sentences + " sentences: ");
        System.out.println(wrong == 0 ? "all answers are as due" : wrong + " answers are not as due");
        if (wrong != 0) {
            System.exit(1);
        }
    }

    /** Up to eight characters as a number, the first highest. */
    static long packed(String characters) {
        long w = 0;
        for (int k = 0; k < characters.length(); k++) {
            w = w << 8 | characters.charAt(k);
        }
        return w;
    }

    static void put(PipelineText x, String text) {
        for (int at = 0; at < text.length(); at += 8) {
            String some = text.substring(at, Math.min(text.length(), at + 8));
            due("text of '" + some + "'", x.text(packed(some)), true);
        }
    }

    static int read(PipelineText x, String text) {
        put(x, text);
        return x.read();
    }

    /** A new object that has read the text. */
    static PipelineText reading(String text) {
        PipelineText x = new PipelineText();
        read(x, text);
        return x;
    }

    /** A new object that has read the text and expanded it to as many as are due. */
    static PipelineText expanding(String text, int want) {
        PipelineText x = reading(text);
        due("expand of '" + text.replace("\n", "|") + "'", x.expand(2000), want);
        return x;
    }

    /** What a new object and a used one are due to answer to the text. */
    static void dueRead(String text, int want) {
        String shown = text.replace("\n", "|");
        due("read of '" + shown + "'", read(new PipelineText(), text), want);
        due("read by a used one of '" + shown + "'", read(USED, text), want);
    }

    static void dueFault(String text, int fault, int culprit) {
        PipelineText x = reading(text);
        read(USED, text);
        String shown = text.replace("\n", "|");
        due("check of '" + shown + "'", x.check(), fault);
        due("culprit of '" + shown + "'", x.culprit(), culprit);
        due("check again of '" + shown + "'", x.check(), fault);
        due("culprit by a used one of '" + shown + "'", USED.culprit(), culprit);
        due("check by a used one of '" + shown + "'", USED.check(), fault);
    }

    static void dueCombinations(String text, String want) {
        String shown = text.replace("\n", "|");
        due("expand of '" + shown + "'", combinations(reading(text), 2000), want);
        read(USED, text);
        due("expand by a used one of '" + shown + "'", combinations(USED, 2000), want);
        due("expand again of '" + shown + "'", combinations(USED, 2000), want);
    }

    static String pair(PipelineText x, int i, int pair) {
        StringBuilder told = new StringBuilder();
        for (int k = 0; k < 20 && x.pair(i, pair, k) != PipelineText.NONE; k++) {
            told.append((char) x.pair(i, pair, k));
        }
        return told.toString();
    }

    static String pairs(PipelineText x, int i) {
        StringBuilder told = new StringBuilder();
        for (int p = 0; p < x.expanded(i, 1); p++) {
            told.append(p == 0 ? "" : " ").append(pair(x, i, p));
        }
        return told.toString();
    }

    /** The COMBINATIONS of all EXPANDED ones, each behind the number of its JOB. */
    static String combinations(PipelineText x, int bound) {
        StringBuilder told = new StringBuilder();
        int count = x.expand(bound);
        for (int i = 0; i < count; i++) {
            told.append(i == 0 ? "" : ", ").append(x.expanded(i, 0)).append(':').append(pairs(x, i));
        }
        return told.toString();
    }

    static String step(PipelineText x, int i, int step) {
        StringBuilder told = new StringBuilder();
        for (int k = 0; k < 800 && x.step(i, step, k) != PipelineText.NONE; k++) {
            told.append((char) x.step(i, step, k));
        }
        return told.toString();
    }

    static String times(String text, int count) {
        return text.repeat(count);
    }

    /** So many times the text, with the numbers from 0 in the place of #. */
    static String numbered(String text, int count) {
        StringBuilder told = new StringBuilder();
        for (int n = 0; n < count; n++) {
            told.append(text.replace("#", String.valueOf(n)));
        }
        return told.toString();
    }

    /** All that job tells of a JOB, 0 up to 5. */
    static String counts(PipelineText x, int job) {
        StringBuilder told = new StringBuilder();
        for (int what = 0; what <= 5; what++) {
            told.append(what == 0 ? "" : " ").append(x.job(job, what));
        }
        return told.toString();
    }

    /** The STEPS of an EXPANDED one, with a bar between. */
    static String steps(PipelineText x, int i) {
        StringBuilder told = new StringBuilder();
        for (int s = 0; s < x.expanded(i, 2); s++) {
            told.append(s == 0 ? "" : "|").append(step(x, i, s));
        }
        return told.toString();
    }
}
