/** Many runs of up to 512 calls, the same ones each time, that FinderBook and the model answer alike. */
public final class ModelTest {
    private static final int RUNS = 4000;
    private static final int CALLS = 512;
    private static final int STEP_CALLS = 110;
    private static final String[] PATHS = {"x", "y", "age", "or", "and", "order", "not", "notNull", "is", "isNull", "null",
        "a.b", "a.bC", "aB.c", "a.b.c", "aBC", "ab", "a.b.cD", "aB.cD", "aBC.d", "a.bC.d", "desc", "asc", "ageDesc", "xAnd", "xOr",
        "ageIs", "equals", "xOrY", "andX", "orderB", "y.true", "yTrue", "x1", "a.b1.c2", "between", "ascY", "lessThan", "a.asc"};
    private static final String[] KEYWORDS = {"", "", "", "Is", "Equals", "Not", "LessThan", "LessThanEqual", "GreaterThan",
        "GreaterThanEqual", "Between", "Null", "NotNull", "True", "False", "IsNot", "IsLessThan", "IsLessThanEqual",
        "IsGreaterThan", "IsGreaterThanEqual", "IsBetween", "IsNull", "IsNotNull", "IsTrue", "IsFalse", "IsEquals", "Isnt"};
    private static final String[] SUBJECTS = {"find", "find", "find", "count", "exists", "delete", "get", "Find"};
    private static final String[] LIMITS = {"", "", "", "", "Top", "First", "Top2", "First3", "Top0", "First0012", "Top007", "5"};
    private static final String[] DIRECTIONS = {"", "Asc", "Desc", "asc", "AscDesc"};
    private static final Check CHECK = new Check();

    private long state;
    private final FinderBook book = new FinderBook();
    private final Model model = new Model();
    private final String[] paths;
    private final int[] seen;
    // Short names leave calls for as many finders as there may be.
    private final boolean terse;
    private int calls = 0;

    private ModelTest(int run, int[] seen) {
        this.seen = seen;
        state = run * 7919L + 1;
        terse = below(3) == 0;
        paths = new String[terse ? 2 : 3 + below(8)];
        for (int i = 0; i < paths.length; i++) {
            paths[i] = terse ? PATHS[i] : pick(PATHS);
        }
    }

    public static void main(String[] args) {
        int[] seen = new int[20];
        for (int run = 0; run < RUNS; run++) {
            CHECK.about("run " + run);
            new ModelTest(run, seen).play();
        }
        for (int answer = -7; answer <= 7; answer++) {
            CHECK.due("define answered " + answer + " in some run", seen[answer + 7] > 0, true);
        }
        CHECK.end();
    }

    private int below(int bound) {
        state = state * 6364136223846793005L + 1442695040888963407L;
        return (int) ((state >>> 33) % bound);
    }

    private String pick(String[] texts) {
        return texts[below(texts.length)];
    }

    private void play() {
        for (int i = 0; i < paths.length; i++) {
            declare(paths[i]);
        }
        // No step takes more calls than these.
        while (calls + STEP_CALLS <= CALLS) {
            step();
        }
    }

    private void step() {
        switch (terse && below(4) == 0 ? 2 : below(14)) {
            case 0:
                declare(below(4) == 0 ? pick(PATHS) + "." + pick(PATHS) : pick(PATHS));
                break;
            case 1:
                write(spelled());
                due("names()", book.names(), model.names());
                break;
            case 2:
            case 3:
                define();
                break;
            case 4:
            case 5:
            case 6:
                save();
                break;
            case 7:
                look();
                break;
            case 8:
                remove(below(30));
                break;
            default:
                run(below(9) - (below(9) == 0 ? 1 : 0));
        }
    }

    private void due(String call, long got, long want) {
        calls++;
        CHECK.due(call, got, want);
    }

    private static long number(boolean answer) {
        return answer ? 1 : 0;
    }

    private void write(String text) {
        book.scrap();
        model.scrap();
        calls++;
        for (char c : text.toCharArray()) {
            due("type('" + c + "')", number(book.type(c)), number(model.type(c)));
        }
    }

    private void declare(String path) {
        write(path);
        due("declare() of " + path, book.declare(), model.declare());
    }

    private void define() {
        String text = finderText();
        boolean single = below(4) == 0;
        write(text);
        int answer = book.define(single);
        due("define(" + single + ") of " + text, answer, model.define(single));
        seen[answer + 7]++;
        for (int which = -1; answer >= 0 && which <= 6; which++) {
            due("shape(" + answer + ", " + which + ") of " + text, book.shape(answer, which), model.shape(answer, which));
            due("part(" + answer + ", " + which + ") of " + text, book.part(answer, which), model.part(answer, which));
        }
    }

    private String finderText() {
        StringBuilder text = new StringBuilder(below(3) == 0 ? pick(SUBJECTS) : SUBJECTS[below(6)]);
        text.append(pick(LIMITS)).append(below(30) == 0 ? "by" : "By");
        if (terse && below(3) > 0) {
            return text.toString();
        }
        int parts = below(8) == 0 ? below(9) : below(3);
        for (int i = 0; i < parts; i++) {
            text.append(i == 0 && below(20) > 0 ? "" : below(2) == 0 ? "Or" : "And");
            text.append(below(30) == 0 ? "" : spelled()).append(below(parts > 5 ? 6 : 1) == 0 ? pick(KEYWORDS) : "");
        }
        if (below(2) == 0) {
            text.append("OrderBy");
            int orders = below(12) == 0 ? below(6) : 1 + below(2);
            for (int i = 0; i < orders; i++) {
                text.append(spelled()).append(i < orders - 1 && below(9) > 0 ? DIRECTIONS[1 + below(2)] : pick(DIRECTIONS));
            }
        }
        if (below(25) == 0) {
            text.setCharAt(below(text.length()), "aBO_.0".charAt(below(6)));
        }
        text.setLength(Math.min(text.length(), 84));
        return text.toString();
    }

    private String spelled() {
        StringBuilder text = new StringBuilder();
        for (String name : (below(9) == 0 ? pick(PATHS) : pick(paths)).split("\\.")) {
            text.append(text.length() > 0 && below(3) == 0 ? "_" : "");
            text.append(Character.toUpperCase(name.charAt(0))).append(name.substring(1));
        }
        return text.toString();
    }

    private int small() {
        int[] values = {-1, 0, 0, 1, 1, 2, Integer.MIN_VALUE, Integer.MAX_VALUE};
        return values[below(values.length)];
    }

    private void save() {
        for (int i = below(5); i > 0; i--) {
            int leaf = below(10) - 1;
            int v = small();
            boolean blank = below(4) == 0;
            due("fill or blank of " + leaf, number(blank ? book.blank(leaf) : book.fill(leaf, v)),
                number(model.fill(leaf, blank ? null : v)));
        }
        int id = below(14);
        id = id == 13 ? 10000 : id;
        due("save(" + id + ")", number(book.save(id)), number(model.save(id)));
    }

    private void remove(int id) {
        due("remove(" + id + ")", number(book.remove(id)), number(model.remove(id)));
    }

    private void look() {
        due("size()", book.size(), model.size());
        for (int i = 0; i < 5; i++) {
            int id = below(14);
            int leaf = below(10) - 1;
            due("value(" + id + ", " + leaf + ")", book.value(id, leaf), model.value(id, leaf));
        }
    }

    private void run(int f) {
        int given = below(12) == 0 ? below(14) : Math.max(0, model.shape(f, 4));
        for (int i = 0; i < given; i++) {
            int v = small();
            due("arg(" + v + ")", number(book.arg(v)), number(model.arg(v)));
        }
        due("run(" + f + ")", book.run(f), model.run(f));
        due("size()", book.size(), model.size());
        due("results()", book.results(), model.results());
        for (int k = -1; k <= model.results(); k++) {
            due("result(" + k + ")", book.result(k), model.result(k));
        }
    }
}
