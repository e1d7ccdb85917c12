import java.util.ArrayList;
import java.util.Arrays;
import java.util.LinkedHashMap;
import java.util.List;
import java.util.Map;

/** The document written a second time, with lists, maps and texts and no thought of room: what answers are due. */
final class Model {
    static final class Part {
        String name;
        List<List<String>> items = new ArrayList<>();
    }

    static final class Job {
        Part part = new Part();
        List<String> needs = new ArrayList<>();
        Map<String, List<String>> axes = new LinkedHashMap<>();
        List<Map<String, String>> includes = new ArrayList<>();
        List<Map<String, String>> excludes = new ArrayList<>();
        List<String> condition = null;
    }

    static final class Expanded {
        int job;
        Map<String, String> combination;
        List<String> steps = new ArrayList<>();
    }

    String branch = "";
    List<Job> jobs = new ArrayList<>();
    List<Part> parts = new ArrayList<>();
    List<Expanded> expanded = new ArrayList<>();
    int fault;
    int culprit;

    int read(String text) {
        jobs.clear();
        parts.clear();
        expanded.clear();
        String[] lines = text.split("\n", -1);
        Job job = null;
        Part part = null;
        int ill = -1;
        for (int n = 0; n < lines.length && ill < 0; n++) {
            List<String> words = new ArrayList<>(Arrays.asList(lines[n].split(" ")));
            words.removeIf(String::isEmpty);
            if (words.isEmpty()) {
                continue;
            }
            String key = words.remove(0);
            boolean named = words.size() == 1 && isName(words.get(0));
            if (key.equals("job") && named && jobs.size() < 12 && jobNamed(words.get(0)) < 0) {
                job = new Job();
                part = job.part;
                part.name = words.get(0);
                jobs.add(job);
            } else if (key.equals("part") && named && parts.size() < 8 && partNamed(words.get(0)) < 0) {
                job = null;
                part = new Part();
                part.name = words.get(0);
                parts.add(part);
            } else if (key.equals("job") || key.equals("part") || part == null || !line(key, words, job, part)) {
                ill = n;
            }
        }
        if (ill >= 0) {
            jobs.clear();
            parts.clear();
        }
        look();
        return ill >= 0 ? -1 - ill : jobs.size();
    }

    static boolean isName(String word) {
        return word.matches("[a-z0-9]{1,8}");
    }

    private static boolean line(String key, List<String> words, Job job, Part part) {
        if (words.isEmpty()) {
            return false;
        }
        if (key.equals("step") || key.equals("use")) {
            boolean well = key.equals("step") ? words.size() <= 6 : words.size() == 1 && isName(words.get(0));
            words.add(0, key);
            part.items.add(words);
            return well && part.items.size() <= 8;
        }
        if (job == null) {
            return false;
        }
        switch (key) {
            case "needs":
                job.needs.addAll(words);
                return words.stream().allMatch(Model::isName) && job.needs.size() <= 6
                        && job.needs.stream().distinct().count() == job.needs.size();
            case "axis":
                boolean fresh = job.axes.put(words.get(0), words.subList(1, words.size())) == null;
                int values = words.size() - 1;
                return fresh && words.stream().allMatch(Model::isName) && job.axes.size() <= 3 && values >= 1
                        && values <= 5 && words.subList(1, words.size()).stream().distinct().count() == values;
            case "include":
                return pairs(words, job.includes);
            case "exclude":
                return pairs(words, job.excludes);
            case "if":
                boolean first = job.condition == null;
                job.condition = words;
                return first && words.size() <= 20 && isCondition(words);
            default:
                return false;
        }
    }

    private static boolean pairs(List<String> words, List<Map<String, String>> rows) {
        Map<String, String> row = new LinkedHashMap<>();
        for (String word : words) {
            if (!isPair(word) || row.put(word.split("=")[0], word.split("=")[1]) != null) {
                return false;
            }
        }
        rows.add(row);
        return row.size() <= 4 && rows.size() <= 4;
    }

    private static boolean isPair(String word) {
        return word.matches("[a-z0-9]{1,8}=[a-z0-9]{1,8}");
    }

    /** Folds what is a CONDITION from the inside out: T(d) is one with d of not and ( within one another. */
    private static boolean isCondition(List<String> words) {
        StringBuilder folded = new StringBuilder();
        for (int w = 0; w < words.size(); w++) {
            String word = words.get(w);
            boolean asks = (word.equals("ok") || word.equals("bad")) && w + 1 < words.size()
                    && isName(words.get(w + 1));
            if (asks || word.equals("always") || isPair(word)) {
                folded.append("0 ");
                w += asks ? 1 : 0;
            } else if (word.equals("not")) {
                folded.append("! ");
            } else if (word.equals("and") || word.equals("or")) {
                folded.append(word.equals("and") ? "& " : "| ");
            } else if (word.equals("(") || word.equals(")")) {
                folded.append(word).append(' ');
            } else {
                return false;
            }
        }
        String text = folded.toString();
        for (int round = 0; round < 60; round++) {
            String before = text;
            for (int depth = 0; depth < 6; depth++) {
                text = text.replace("! " + depth + " ", (depth + 1) + " ");
                text = text.replace("( " + depth + " ) ", (depth + 1) + " ");
            }
            if (text.equals(before)) {
                text = joined(text);
            }
        }
        return text.matches("[0-6] ");
    }

    /** One joining by and, or by or where no not and no and would have its side first. */
    private static String joined(String text) {
        for (char join : new char[] {'&', '|'}) {
            for (int left = 0; left <= 6; left++) {
                for (int right = 0; right <= 6; right++) {
                    String both = left + " " + join + " " + right + " ";
                    int at = text.indexOf(both);
                    if (at >= 0) {
                        return text.substring(0, at) + Math.max(left, right) + " " + text.substring(at + both.length());
                    }
                }
            }
        }
        return text;
    }

    int jobNamed(String name) {
        for (int j = 0; j < jobs.size(); j++) {
            if (jobs.get(j).part.name.equals(name)) {
                return j;
            }
        }
        return -1;
    }

    int partNamed(String name) {
        for (int p = 0; p < parts.size(); p++) {
            if (parts.get(p).name.equals(name)) {
                return p;
            }
        }
        return -1;
    }

    private void look() {
        fault = 0;
        culprit = -1;
        for (int j = jobs.size() - 1; j >= 0; j--) {
            if (needsItself(j, j, 12)) {
                tell(4, j);
            }
        }
        for (int p = parts.size() - 1; p >= 0; p--) {
            if (usesItself(p, p, 8)) {
                tell(3, 100 + p);
            }
        }
        for (int p = parts.size() - 1; p >= 0; p--) {
            if (usesMissing(parts.get(p))) {
                tell(2, 100 + p);
            }
        }
        for (int j = jobs.size() - 1; j >= 0; j--) {
            if (usesMissing(jobs.get(j).part)) {
                tell(2, j);
            }
        }
        for (int j = jobs.size() - 1; j >= 0; j--) {
            if (asked(jobs.get(j)).stream().anyMatch(name -> jobNamed(name) < 0)) {
                tell(1, j);
            }
        }
    }

    private void tell(int newFault, int by) {
        fault = newFault;
        culprit = by;
    }

    private static List<String> asked(Job job) {
        List<String> names = new ArrayList<>(job.needs);
        for (int w = 0; job.condition != null && w < job.condition.size(); w++) {
            if (job.condition.get(w).matches("ok|bad")) {
                w++;
                names.add(job.condition.get(w));
            }
        }
        return names;
    }

    private boolean usesMissing(Part part) {
        return part.items.stream().anyMatch(item -> item.get(0).equals("use") && partNamed(item.get(1)) < 0);
    }

    private boolean needsItself(int from, int to, int most) {
        for (String name : jobs.get(from).needs) {
            int next = jobNamed(name);
            if (next == to || next >= 0 && most > 0 && needsItself(next, to, most - 1)) {
                return true;
            }
        }
        return false;
    }

    private boolean usesItself(int from, int to, int most) {
        for (List<String> item : parts.get(from).items) {
            int next = item.get(0).equals("use") ? partNamed(item.get(1)) : -1;
            if (next == to || next >= 0 && most > 0 && usesItself(next, to, most - 1)) {
                return true;
            }
        }
        return false;
    }

    int expand(int bound) {
        expanded.clear();
        if (fault != 0) {
            return 0;
        }
        for (int j = 0; j < jobs.size(); j++) {
            for (Map<String, String> combination : combinations(jobs.get(j))) {
                Expanded one = new Expanded();
                one.job = j;
                one.combination = combination;
                addSteps(jobs.get(j).part, one);
                expanded.add(one);
            }
        }
        if (expanded.size() > bound) {
            expanded.clear();
            return -1;
        }
        return expanded.size();
    }

    private static List<Map<String, String>> combinations(Job job) {
        List<Map<String, String>> all = new ArrayList<>();
        if (!job.axes.isEmpty() || job.includes.isEmpty()) {
            all.add(new LinkedHashMap<>());
        }
        for (Map.Entry<String, List<String>> axis : job.axes.entrySet()) {
            List<Map<String, String>> longer = new ArrayList<>();
            for (Map<String, String> one : all) {
                for (String value : axis.getValue()) {
                    Map<String, String> more = new LinkedHashMap<>(one);
                    more.put(axis.getKey(), value);
                    longer.add(more);
                }
            }
            all = longer;
        }
        all.removeIf(one -> job.excludes.stream().anyMatch(no -> one.entrySet().containsAll(no.entrySet())));
        for (Map<String, String> include : job.includes) {
            if (!all.contains(include)) {
                all.add(include);
            }
        }
        return all;
    }

    private void addSteps(Part part, Expanded one) {
        for (List<String> item : part.items) {
            if (item.get(0).equals("use")) {
                addSteps(parts.get(partNamed(item.get(1))), one);
            } else if (one.steps.size() < 1000) {
                List<String> told = new ArrayList<>();
                for (String word : item.subList(1, item.size())) {
                    boolean asks = word.startsWith("$") && isName(word.substring(1));
                    told.add(asks ? one.combination.getOrDefault(word.substring(1), "") : word);
                }
                one.steps.add(String.join(" ", told));
            }
        }
    }

    boolean wants(int i, int outcomes) {
        if (i < 0 || i >= expanded.size()) {
            return false;
        }
        Expanded one = expanded.get(i);
        Job job = jobs.get(one.job);
        if (job.condition == null) {
            return job.needs.stream().allMatch(name -> (outcomes >> 2 * jobNamed(name)) % 2 != 0);
        }
        return isSo(job.condition, one.combination, outcomes);
    }

    private boolean isSo(List<String> words, Map<String, String> combination, int outcomes) {
        for (String join : new String[] {"or", "and"}) {
            int at = lastOutside(words, join);
            if (at >= 0) {
                boolean left = isSo(words.subList(0, at), combination, outcomes);
                boolean right = isSo(words.subList(at + 1, words.size()), combination, outcomes);
                return join.equals("or") ? left || right : left && right;
            }
        }
        String word = words.get(0);
        switch (word) {
            case "not":
                return !isSo(words.subList(1, words.size()), combination, outcomes);
            case "(":
                return isSo(words.subList(1, words.size() - 1), combination, outcomes);
            case "always":
                return true;
            case "ok":
                return Arrays.asList(1, 3).contains(outcomes >>> 2 * jobNamed(words.get(1)) & 3);
            case "bad":
                return Arrays.asList(2, 3).contains(outcomes >>> 2 * jobNamed(words.get(1)) & 3);
            default:
                String had = combination.get(word.split("=")[0]);
                boolean ofBranch = had == null && word.startsWith("branch=");
                return word.split("=")[1].equals(ofBranch ? branch : had);
        }
    }

    /** Where the last such WORD stands that is in no brackets and no NAME behind ok or bad. */
    private static int lastOutside(List<String> words, String join) {
        int found = -1;
        int open = 0;
        for (int w = 0; w < words.size(); w++) {
            String word = words.get(w);
            if (word.equals("(") || word.equals(")")) {
                open += word.equals("(") ? 1 : -1;
            } else if (word.equals("ok") || word.equals("bad")) {
                w++;
            } else if (open == 0 && word.equals(join)) {
                found = w;
            }
        }
        return found;
    }
}
