/** Boundary cases of CONDITIONS as they are read: once, 20 WORDS, how they are built, 6 within one another. */
public final class EdgeConditionTest {
    public static void main(String[] args) {
        once();
        twentyWords();
        joinedByOrAndAnd();
        notAndBrackets();
        askings();
        sixWithinOneAnother();
        Due.end();
    }

    private static void dueCondition(String condition, boolean well) {
        Due.dueRead("job a\nif " + condition, well ? 1 : -2);
    }

    /** What the CONDITION of a JOB is due to answer, if the JOB a is ok and if it isn't. */
    private static void dueAnswers(String condition, boolean withOk, boolean without) {
        PipelineText x = Due.expanding("job a\nif " + condition, 1);
        Due.due("wants with ok by " + condition, x.wants(0, 1), withOk);
        Due.due("wants without ok by " + condition, x.wants(0, 0), without);
    }

    private static void once() {
        Due.sentence("Terms", "if CONDITION: at most once");
        Due.dueRead("job a\nif always", 1);
        Due.dueRead("job a\nif always\nif always", -3);
        Due.dueRead("job a\nif always\nstep b\nif ok a", -4);
        Due.dueRead("job a\nif always\njob b\nif always", 2);
        Due.dueRead("job a\nif always\njob b\nif always\nif always", -5);
        Due.dueRead("job a\nif", -2);
        PipelineText x = Due.reading("job a\njob b\nif ok a\njob c");
        Due.due("without, with, without", x.job(0, 5) * 100 + x.job(1, 5) * 10 + x.job(2, 5), 10);
    }

    private static void twentyWords() {
        Due.sentence("Terms", "if CONDITION: .. at most 20 WORDS");
        dueCondition("always" + Due.times(" or always", 9), true);
        dueCondition("not always" + Due.times(" or always", 9), true);
        dueCondition("always" + Due.times(" or always", 10), false);
        dueCondition("always" + Due.times(" and always", 9), true);
        dueCondition("not always" + Due.times(" and always", 9), true);
        dueCondition("always" + Due.times(" and always", 10), false);
        dueCondition("ok a" + Due.times(" or ok a", 6), true);
        dueCondition("ok a" + Due.times(" or ok a", 5) + " or bad a and a=b", false);
        dueCondition("not bad a" + Due.times(" or always", 8), true);
        dueCondition("not bad a" + Due.times(" or always", 9), false);
        dueCondition("( always" + Due.times(" or always", 8) + " )", true);
        dueCondition("not ( always" + Due.times(" or always", 8) + " )", true);
        dueCondition("not not ( always" + Due.times(" or always", 8) + " )", false);
        String words = "not ok a and " + Due.times("( ", 5) + "ok a or bad a" + Due.times(" )", 5) + " or";
        Due.due("how many words before the last one", words.split(" ").length, 20);
        dueCondition(words.substring(0, words.length() - 3), true);
        dueCondition(words + " always", false);
        dueAnswers("not a=b and " + Due.times("always and ", 7) + "not ok a", false, true);
        dueAnswers("not always or " + Due.times("a=b or ", 7) + "not ok a", false, true);
    }

    private static void joinedByOrAndAnd() {
        Due.sentence("Terms", "CONDITION: AND (or AND)*. AND: NOT (and NOT)*.");
        for (String join : new String[] {"or", "and"}) {
            dueCondition("always " + join + " always", true);
            dueCondition("always " + join, false);
            dueCondition(join + " always", false);
            dueCondition(join, false);
            dueCondition("always " + join + " " + join + " always", false);
            dueCondition("( always " + join + " )", false);
            dueCondition("( " + join + " always )", false);
            dueCondition("always " + join + " )", false);
        }
        dueCondition("always or and always", false);
        dueCondition("always and or always", false);
        dueCondition("always always", false);
        dueCondition("", false);
        dueCondition("always || always", false);
        dueAnswers("always or ok a and not always", true, true);
        dueAnswers("not always and ok a or always", true, true);
        dueAnswers("( always or ok a ) and not always", false, false);
        dueAnswers("not always and ( ok a or always )", false, false);
        dueAnswers("not ok a or not always and always", false, true);
    }

    private static void notAndBrackets() {
        Due.sentence("Terms", "NOT: not NOT, ( CONDITION ) (the brackets being WORDS)");
        dueCondition("not always", true);
        dueCondition("not not always", true);
        dueCondition("not", false);
        dueCondition("always not", false);
        dueCondition("not not", false);
        dueCondition("not or always", false);
        dueCondition("always or not", false);
        dueCondition("always not always", false);
        dueCondition("( always )", true);
        dueCondition("( always or always )", true);
        dueCondition("( ( always ) )", true);
        dueCondition("(always)", false);
        dueCondition("( always)", false);
        dueCondition("(always )", false);
        dueCondition("((always ) )", false);
        dueCondition("( )", false);
        dueCondition("()", false);
        dueCondition("(", false);
        dueCondition(")", false);
        dueCondition("( always", false);
        dueCondition("( ( always )", false);
        dueCondition("( always always", false);
        dueCondition("( always (", false);
        dueCondition("( always ok", false);
        dueCondition("not ( always always )", false);
        dueCondition("always )", false);
        dueCondition("( always ) )", false);
        dueCondition(") always (", false);
        dueCondition("( always ) ( always )", false);
        dueCondition("always ( always )", false);
        dueCondition("( always ) always", false);
        dueCondition("( not )", false);
        dueCondition("not ( )", false);
        dueAnswers("not ok a or always", true, true);
        dueAnswers("not ( ok a or always )", false, false);
        dueAnswers("not not ok a", true, false);
    }

    private static void askings() {
        Due.sentence("Terms", "always, ok NAME, bad NAME, or a PAIR");
        for (String well : new String[] {"always", "ok a", "bad a", "a=b", "ok always", "bad not", "ok or", "ok ok",
                "not=and", "always=always", "ok ok or bad bad"}) {
            dueCondition(well, true);
        }
        for (String ill : new String[] {"ok", "bad", "a", "ok a b", "bad a b", "ok a=b", "ok (", "ok )", "bad ( a )",
                "alway", "Always", "always a", "OK a", "okay a", "bad A", "a=b c", "a=b c=d", "ok not a", "1"}) {
            dueCondition(ill, false);
            dueCondition("not " + ill, false);
            dueCondition("( " + ill + " )", false);
            dueCondition("always or " + ill, false);
            dueCondition(ill + " or always", false);
        }
        dueCondition("ok or always", false);
        dueCondition("ok or or always", true);
    }

    private static void sixWithinOneAnother() {
        Due.sentence("Terms", "At most 6 of not and ( within one another");
        for (int depth = 5; depth <= 7; depth++) {
            dueCondition(Due.times("not ", depth) + "always", depth <= 6);
            dueCondition(Due.times("( ", depth) + "always" + Due.times(" )", depth), depth <= 6);
            dueCondition("always or " + Due.times("not ", depth) + "always", depth <= 6);
            dueCondition("always and " + Due.times("( ", depth) + "always" + Due.times(" )", depth), depth <= 6);
            for (int brackets = 1; brackets < depth; brackets++) {
                String nots = Due.times("not ", depth - brackets);
                String open = Due.times("( ", brackets);
                String close = Due.times(" )", brackets);
                dueCondition(nots + open + "always" + close, depth <= 6);
                dueCondition(open + nots + "always" + close, depth <= 6);
                dueCondition(open + "always or " + nots + "always" + close, depth <= 6);
                dueCondition(open + "always and " + nots + "always" + close, depth <= 6);
            }
        }
        dueCondition("not not not not not not always and not not not not not not always", true);
        dueCondition("not not not not not not always or not not not not not not always", true);
        dueCondition("( ( ( not not not always ) ) ) or ( ( ( not always ) ) )", true);
        dueCondition("( ( ( ( ( always ) ) ) ) ) or ( not always )", true);
        dueCondition("( ( ( ( ( always ) ) ) ) or not not not not not always )", true);
        dueCondition("( ( ( ( always ) ) ) or not not not not not not always )", false);
        dueAnswers("not not not not not not ok a", true, false);
        dueAnswers("not not not not not ok a", false, true);
        dueAnswers("( ( ( ( ( ( ok a ) ) ) ) ) )", true, false);
        dueAnswers("not ( not ( not ( ok a ) ) )", false, true);
    }
}
