import java.util.ArrayList;
import java.util.LinkedHashSet;
import java.util.List;
import java.util.Set;
import java.util.function.ToLongFunction;

/**
 * A FinderBook that is asked together with the answers that are due. Its calls are kept, so that a call that is to
 * change nothing, be it a question or one that is refused, is held against a book that was never asked it.
 */
final class Book {
    private static final int MAX_CALLS = 512;
    private static final int VIEW_CALLS = 130;

    private final Check check;
    private final FinderBook book = new FinderBook();
    private final List<ToLongFunction<FinderBook>> calls = new ArrayList<>();
    private final Set<Integer> ids = new LinkedHashSet<>();
    private final Set<String> paths = new LinkedHashSet<>();

    Book(Check check, String... paths) {
        this.check = check;
        for (int i = 0; i < paths.length; i++) {
            declare(paths[i], i);
        }
    }

    private Book ask(String name, ToLongFunction<FinderBook> call, long want) {
        calls.add(call);
        check.due(name, call.applyAsLong(book), want);
        if (calls.size() + VIEW_CALLS > MAX_CALLS) {
            check.due("calls on one book, with those that look at it", calls.size() + VIEW_CALLS, MAX_CALLS);
        }
        return this;
    }

    private Book askInVain(String name, ToLongFunction<FinderBook> call, long want) {
        List<String> before = new View(calls, ids, paths).all();
        ask(name, call, want);
        List<String> after = new View(calls, ids, paths).all();
        for (int i = 0; i < before.size(); i++) {
            check.due("what is seen after " + name + ", which changes nothing,", after.get(i), before.get(i));
        }
        return this;
    }

    private Book ask(String name, ToLongFunction<FinderBook> call, boolean want) {
        return want ? ask(name, call, 1) : askInVain(name, call, 0);
    }

    private Book askNumber(String name, ToLongFunction<FinderBook> call, int want) {
        return want >= 0 ? ask(name, call, want) : askInVain(name, call, want);
    }

    /** Later calls can tell no difference between the two books. */
    void alike(String what, Book other) {
        ids.addAll(other.ids);
        paths.addAll(other.paths);
        List<String> mine = new View(calls, ids, paths).all();
        List<String> others = new View(other.calls, ids, paths).all();
        for (int i = 0; i < mine.size(); i++) {
            check.due("what is seen after " + what, mine.get(i), others.get(i));
        }
    }

    Book type(char c, boolean want) {
        return ask("type((char) " + (int) c + ")", asked -> asked.type(c) ? 1 : 0, want);
    }

    /** Types the text behind what is there. */
    Book add(String text) {
        for (char c : text.toCharArray()) {
            type(c, true);
        }
        return this;
    }

    Book scrap() {
        calls.add(asked -> {
            asked.scrap();
            return 0;
        });
        book.scrap();
        return this;
    }

    /** Scraps the draft and types the text instead. */
    Book write(String text) {
        return scrap().add(text);
    }

    Book declare(int want) {
        return askNumber("declare()", FinderBook::declare, want);
    }

    Book declare(String path, int want) {
        paths.add(path);
        return write(path).askNumber("declare() of " + path, FinderBook::declare, want);
    }

    Book names(int want) {
        return askInVain("names()", FinderBook::names, want);
    }

    Book names(String text, int want) {
        return write(text).askInVain("names() of " + text, FinderBook::names, want);
    }

    Book define(boolean single, int want) {
        return askNumber("define(" + single + ")", asked -> asked.define(single), want);
    }

    Book define(String text, int want) {
        return define(text, false, want);
    }

    Book define(String text, boolean single, int want) {
        return write(text).askNumber("define(" + single + ") of " + text, asked -> asked.define(single), want);
    }

    Book shape(int f, int which, int want) {
        return askInVain("shape(" + f + ", " + which + ")", asked -> asked.shape(f, which), want);
    }

    Book shapes(int f, int... wants) {
        for (int which = 0; which < wants.length; which++) {
            shape(f, which, wants[which]);
        }
        return this;
    }

    Book part(int f, int k, int want) {
        return askInVain("part(" + f + ", " + k + ")", asked -> asked.part(f, k), want);
    }

    /** All parts of the finder, as pairs of leaf and keyword. */
    Book parts(int f, int... wants) {
        for (int k = 0; 2 * k < wants.length; k++) {
            part(f, k, 16 * wants[2 * k] + wants[2 * k + 1]);
        }
        return part(f, wants.length / 2, -1);
    }

    Book fill(int leaf, int v, boolean want) {
        return ask("fill(" + leaf + ", " + v + ")", asked -> asked.fill(leaf, v) ? 1 : 0, want);
    }

    Book blank(int leaf, boolean want) {
        return ask("blank(" + leaf + ")", asked -> asked.blank(leaf) ? 1 : 0, want);
    }

    Book save(int id, boolean want) {
        ids.add(id);
        return ask("save(" + id + ")", asked -> asked.save(id) ? 1 : 0, want);
    }

    /** Saves an entity with these values (null is none) for the first leaves. */
    Book entity(int id, Integer... values) {
        for (int leaf = 0; leaf < values.length; leaf++) {
            if (values[leaf] == null) {
                blank(leaf, true);
            } else {
                fill(leaf, values[leaf], true);
            }
        }
        return save(id, true);
    }

    Book remove(int id, boolean want) {
        return ask("remove(" + id + ")", asked -> asked.remove(id) ? 1 : 0, want);
    }

    Book arg(int v, boolean want) {
        return ask("arg(" + v + ")", asked -> asked.arg(v) ? 1 : 0, want);
    }

    Book args(int... values) {
        for (int v : values) {
            arg(v, true);
        }
        return this;
    }

    /** Of the refused runs only -1 is to change nothing. */
    Book run(int f, int want) {
        String name = "run(" + f + ")";
        return want == -1 ? askInVain(name, asked -> asked.run(f), want) : ask(name, asked -> asked.run(f), want);
    }

    Book result(int k, int want) {
        return askInVain("result(" + k + ")", asked -> asked.result(k), want);
    }

    /** All results, and none before or behind them. */
    Book results(int... wants) {
        askInVain("results()", FinderBook::results, wants.length);
        for (int k = 0; k < wants.length; k++) {
            result(k, wants[k]);
        }
        return result(-1, 0).result(wants.length, 0);
    }

    Book value(int id, int leaf, long want) {
        return askInVain("value(" + id + ", " + leaf + ")", asked -> asked.value(id, leaf), want);
    }

    Book size(int want) {
        return askInVain("size()", FinderBook::size, want);
    }

    /** What can be seen of a book that has been asked these calls; each look is at a book of its own. */
    private static final class View {
        private static final int LEAVES = 9;
        private static final int FINDERS = 9;
        private static final int RESULTS = 10;
        private static final int FREE_ID = 9998;

        private final List<ToLongFunction<FinderBook>> calls;
        private final Set<Integer> ids;
        private final Set<String> paths;
        private FinderBook seen;
        private StringBuilder text;

        View(List<ToLongFunction<FinderBook>> calls, Set<Integer> ids, Set<String> paths) {
            this.calls = calls;
            this.ids = ids;
            this.paths = paths;
        }

        List<String> all() {
            List<String> views = new ArrayList<>();
            views.add(of("the draft", this::draft));
            views.add(of("the finders", this::finders));
            views.add(of("the entities", this::entities));
            views.add(of("the form", this::form));
            views.add(of("the results", this::results));
            views.add(of("the number of arguments", this::arguments));
            for (int f = 0; f < FINDERS - 1; f++) {
                int number = f;
                views.add(of("the run of finder " + f, () -> run(number)));
            }
            for (String path : paths) {
                views.add(of("the leaf " + path, () -> leaf(path)));
            }
            return views;
        }

        private String of(String name, Runnable look) {
            seen = new FinderBook();
            for (ToLongFunction<FinderBook> call : calls) {
                call.applyAsLong(seen);
            }
            text = new StringBuilder(name).append(':');
            look.run();
            return text.toString();
        }

        private void tell(long answer) {
            text.append(' ').append(answer);
        }

        private void draft() {
            tell(seen.names());
            tell(seen.define(false));
            tell(seen.declare());
            int free = 0;
            while (free <= 80 && seen.type('a')) {
                free++;
            }
            tell(free);
        }

        private void finders() {
            for (int f = 0; f < FINDERS; f++) {
                for (int which = 0; which < 6; which++) {
                    tell(seen.shape(f, which));
                    tell(seen.part(f, which));
                }
            }
        }

        private void entities() {
            tell(seen.size());
            for (int id : ids) {
                for (int leaf = 0; leaf < LEAVES; leaf++) {
                    tell(seen.value(id, leaf));
                }
            }
        }

        private void form() {
            for (int id : ids) {
                tell(seen.remove(id) ? 1 : 0);
            }
            tell(seen.save(FREE_ID) ? 1 : 0);
            for (int leaf = 0; leaf < LEAVES; leaf++) {
                tell(seen.value(FREE_ID, leaf));
            }
        }

        private void results() {
            tell(seen.results());
            for (int k = 0; k < RESULTS; k++) {
                tell(seen.result(k));
            }
        }

        private void arguments() {
            int free = 0;
            while (free <= 12 && seen.arg(0)) {
                free++;
            }
            tell(free);
        }

        private void run(int f) {
            tell(seen.run(f));
            results();
            tell(seen.size());
        }

        private void leaf(String path) {
            seen.scrap();
            for (String name : path.split("\\.")) {
                for (int i = 0; i < name.length(); i++) {
                    seen.type(i == 0 ? Character.toUpperCase(name.charAt(i)) : name.charAt(i));
                }
            }
            tell(seen.names());
        }
    }
}
