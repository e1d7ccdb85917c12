import java.util.Random;

/** Texts made by chance, most of them well; a third made carelessly, so that names are wrong, twice or not there. */
final class MadeTexts {
    static final String[] VALUES = {"1", "2", "3", "main", "v2345678", "a"};
    static final String[] WRONG = {"A", "a=", "=", "(", ")", "abcdefghi", "$a", "job", "or", "~", "a=b=c"};
    private static final String[] NAMES = {"a", "b", "c", "d", "e", "f", "g", "branch", "ok", "and", "not", "x1234567"};

    private final Random source;
    private boolean careless = false;
    private int jobsBegun = 0;
    private int partsBegun = 0;

    MadeTexts(Random source) {
        this.source = source;
    }

    /** What is to become the BRANCH: two of three are NAMES. */
    String branch() {
        return below(3) == 0 ? one(WRONG) : one(VALUES);
    }

    private int below(int bound) {
        return source.nextInt(bound);
    }

    private String one(String[] of) {
        return of[below(of.length)];
    }

    String text() {
        StringBuilder text = new StringBuilder();
        careless = below(3) == 0;
        jobsBegun = 0;
        partsBegun = 0;
        for (int begun = below(careless ? 5 : 9); begun >= 0; begun--) {
            boolean job = below(3) != 0;
            add(text, (job ? "job " : "part ") + (careless ? name() : NAMES[job ? jobsBegun : partsBegun]));
            for (int lines = below(job ? 7 : 4); lines > 0; lines--) {
                add(text, job ? jobLine() : partLine());
            }
            jobsBegun += job ? 1 : 0;
            partsBegun += job ? 0 : 1;
        }
        int length = Math.min(700, text.length());
        return text.substring(0, below(4) == 0 ? length : Math.max(0, text.lastIndexOf("\n", length - 1)));
    }

    private void add(StringBuilder text, String line) {
        String told = below(200) == 0 ? line + " " + one(WRONG) : line;
        text.append(below(20) == 0 ? "  " + told.replace(" ", "  ") + " " : told);
        text.append(below(20) == 0 ? "\n \n" : "\n");
    }

    private String name() {
        return below(100) == 0 ? one(WRONG) : one(NAMES);
    }

    /** A NAME; if not careless, of what began before, so that most are there and few need themselves. */
    private String known(int before) {
        return careless || before == 0 || below(100) == 0 ? name() : NAMES[below(before)];
    }

    private String partLine() {
        if (below(3) == 0 && (careless || partsBegun > 0)) {
            return "use " + known(partsBegun);
        }
        StringBuilder line = new StringBuilder("step");
        for (int w = below(4); w >= 0; w--) {
            line.append(' ').append(below(2) == 0 ? "$" + name() : below(2) == 0 ? one(WRONG) : one(VALUES));
        }
        return line.toString();
    }

    private String jobLine() {
        StringBuilder line = new StringBuilder();
        switch (below(8)) {
            case 0:
                line.append("needs ").append(known(jobsBegun));
                for (int w = below(4) - 2; w > 0; w--) {
                    line.append(' ').append(known(jobsBegun));
                }
                return !careless && jobsBegun == 0 ? partLine() : line.toString();
            case 1:
            case 2:
                line.append("axis ").append(name());
                int at = below(VALUES.length);
                for (int w = below(5); w >= 0; w--) {
                    line.append(' ').append(VALUES[(at + w) % VALUES.length]);
                }
                return line.toString();
            case 3:
            case 4:
                line.append(below(2) == 0 ? "include" : "exclude");
                for (int w = below(3); w >= 0; w--) {
                    line.append(' ').append(pair());
                }
                return line.toString();
            case 5:
                return "if " + condition(below(4));
            default:
                return partLine();
        }
    }

    private String pair() {
        return below(60) == 0 ? one(WRONG) : NAMES[below(9)] + "=" + one(VALUES);
    }

    private String condition(int depth) {
        if (depth > 0) {
            String some = condition(depth - 1 - below(depth));
            switch (below(5)) {
                case 0:
                    return "not " + some;
                case 1:
                    return "( " + some + " )";
                case 2:
                    return "not ( " + some + " )";
                default:
                    return some + (below(2) == 0 ? " and " : " or ") + condition(depth - 1);
            }
        }
        switch (below(8)) {
            case 0:
                return "always";
            case 1:
            case 2:
                return "branch=" + one(VALUES);
            case 3:
            case 4:
                return (below(2) == 0 ? "ok " : "bad ") + (careless ? name() : NAMES[below(jobsBegun + 1)]);
            case 5:
                return careless && below(10) == 0 ? one(WRONG) : pair();
            default:
                return pair();
        }
    }
}
