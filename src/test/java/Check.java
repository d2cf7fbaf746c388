/** Counts wrong answers, and says long calls shortly. */
final class Check {
    private int wrong = 0;
    private String about = "";

    void about(String text) {
        about = text;
    }

    void due(String call, long got, long want) {
        if (got != want) {
            wrong++;
            System.out.println(about + ": " + call + " answered " + got + ", due is " + want);
        }
    }

    void due(String call, String got, String want) {
        if (!got.equals(want)) {
            wrong++;
            System.out.println(about + ": " + call + " is " + got + ", due is " + want);
        }
    }

    void due(String call, boolean got, boolean want) {
        due(call, got ? 1L : 0L, want ? 1L : 0L);
    }

    void end() {
        System.out.println(wrong == 0 ? "all answers are as due" : wrong + " answers are not as due");
        if (wrong != 0) {
            System.exit(1);
        }
    }

    /** Scraps the draft and types the text instead. */
    void write(FinderBook book, String text) {
        book.scrap();
        for (char c : text.toCharArray()) {
            due("type('" + c + "') of " + text, book.type(c), true);
        }
    }

    FinderBook bookOf(String... paths) {
        FinderBook book = new FinderBook();
        for (int i = 0; i < paths.length; i++) {
            declare(book, paths[i], i);
        }
        return book;
    }

    void declare(FinderBook book, String path, int want) {
        write(book, path);
        due("declare() of " + path, book.declare(), want);
    }

    void names(FinderBook book, String text, int want) {
        write(book, text);
        due("names() of " + text, book.names(), want);
    }

    void define(FinderBook book, String text, int want) {
        define(book, text, false, want);
    }

    void define(FinderBook book, String text, boolean single, int want) {
        write(book, text);
        due("define(" + single + ") of " + text, book.define(single), want);
    }

    /** Each text on a book of its own, which is to serve no more than 512 calls. */
    void refuses(String[] paths, String begin, String[] texts, int want) {
        for (String text : texts) {
            define(bookOf(paths), begin + text, want);
        }
    }

    void shape(FinderBook book, int f, int... want) {
        for (int which = 0; which < want.length; which++) {
            due("shape(" + f + ", " + which + ")", book.shape(f, which), want[which]);
        }
    }

    /** Pairs of leaf and keyword. */
    void parts(FinderBook book, int f, int... want) {
        for (int k = 0; 2 * k < want.length; k++) {
            due("part(" + f + ", " + k + ")", book.part(f, k), 16 * want[2 * k] + want[2 * k + 1]);
        }
        int count = want.length / 2;
        due("part(" + f + ", " + count + ")", book.part(f, count), -1);
    }

    /** Saves an entity with a value (null is none) for each of the first leaves. */
    void save(FinderBook book, int id, Integer... values) {
        for (int leaf = 0; leaf < values.length; leaf++) {
            boolean done = values[leaf] == null ? book.blank(leaf) : book.fill(leaf, values[leaf]);
            due("fill or blank of leaf " + leaf, done, true);
        }
        due("save(" + id + ")", book.save(id), true);
    }

    void run(FinderBook book, int f, int[] arguments, int want) {
        for (int v : arguments) {
            due("arg(" + v + ")", book.arg(v), true);
        }
        due("run(" + f + ")", book.run(f), want);
    }

    void results(FinderBook book, int... want) {
        due("results()", book.results(), want.length);
        for (int k = 0; k < want.length; k++) {
            due("result(" + k + ")", book.result(k), want[k]);
        }
        due("result(" + want.length + ")", book.result(want.length), 0);
        due("result(-1)", book.result(-1), 0);
    }

    static int[] with(int... arguments) {
        return arguments;
    }
}
