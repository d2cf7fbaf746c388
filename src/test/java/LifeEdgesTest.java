/** "An object is used for at most 512 calls": up to the last of them nothing wears out, whatever was asked before. */
public final class LifeEdgesTest {
    private static final Check CHECK = new Check();
    private static final int CALLS = 512;

    public static void main(String[] args) {
        typeAllItsLife();
        typeAndScrapAllItsLife();
        declareAllItsLife();
        defineAllItsLife();
        saveAndRemoveAllItsLife();
        saveOneAllItsLife();
        argAllItsLife();
        runAllItsLife();
        refusedAllItsLife();
        CHECK.end();
    }

    private static void typeAllItsLife() {
        CHECK.about("512 calls of type");
        FinderBook book = new FinderBook();
        for (int call = 1; call <= CALLS; call++) {
            CHECK.due("type('a'), call " + call, book.type('a'), call <= 80);
        }
    }

    private static void typeAndScrapAllItsLife() {
        CHECK.about("texts and scraps, and a leaf with the 512th call");
        FinderBook book = new FinderBook();
        book.scrap();
        for (int pair = 1; pair < CALLS / 2; pair++) {
            book.scrap();
            CHECK.due("type('a')", book.type('a'), true);
        }
        CHECK.due("declare(), the 512th call", book.declare(), 0);
    }

    private static void declareAllItsLife() {
        CHECK.about("the same path over and over");
        FinderBook book = CHECK.bookOf("a", "b");
        for (int call = 7; call + 2 < CALLS; call += 3) {
            book.scrap();
            book.type('b');
            CHECK.due("declare() of b", book.declare(), -2);
        }
        CHECK.due("fill(2, 0)", book.fill(2, 0), false);
    }

    private static void defineAllItsLife() {
        CHECK.about("a finder that is refused over and over, and one made at last");
        FinderBook book = new FinderBook();
        CHECK.write(book, "countBy");
        for (int call = 9; call <= CALLS - 2; call++) {
            CHECK.due("define(true), call " + call, book.define(true), -6);
        }
        CHECK.due("define(false)", book.define(false), 0);
        CHECK.due("run(0), the 512th call", book.run(0), 0);
    }

    private static void saveAndRemoveAllItsLife() {
        CHECK.about("ids that come and go");
        FinderBook book = new FinderBook();
        for (int id = 1; id <= CALLS / 2 - 10; id++) {
            CHECK.due("save(" + id + ")", book.save(id), true);
            if (id > 9) {
                CHECK.due("remove(" + (id - 9) + ")", book.remove(id - 9), true);
            }
        }
        CHECK.due("size()", book.size(), 9);
        CHECK.due("save(1)", book.save(1), true);
        CHECK.due("save(2)", book.save(2), false);
    }

    private static void saveOneAllItsLife() {
        CHECK.about("one id over and over");
        FinderBook book = CHECK.bookOf("x");
        for (int call = 4; call + 4 <= CALLS; call += 3) {
            CHECK.due("fill(0, " + call + ")", book.fill(0, call), true);
            CHECK.due("save(9999)", book.save(9999), true);
            CHECK.due("value(9999, 0)", book.value(9999, 0), call);
        }
        CHECK.due("size()", book.size(), 1);
    }

    private static void argAllItsLife() {
        CHECK.about("512 calls of arg");
        FinderBook book = new FinderBook();
        for (int call = 1; call <= CALLS; call++) {
            CHECK.due("arg(" + call + "), call " + call, book.arg(call), call <= 12);
        }
    }

    private static void runAllItsLife() {
        CHECK.about("a finder that is run over and over");
        FinderBook book = CHECK.bookOf("x");
        CHECK.define(book, "findByXOrderByX", 0);
        CHECK.save(book, 1, 5);
        CHECK.save(book, 2, 5);
        for (int call = 30; call + 3 <= CALLS; call += 3) {
            CHECK.due("arg(5)", book.arg(5), true);
            CHECK.due("run(0)", book.run(0), 2);
            CHECK.due("result(1)", book.result(1), 2);
        }
    }

    private static void refusedAllItsLife() {
        CHECK.about("refused runs, over and over");
        FinderBook book = CHECK.bookOf("x");
        CHECK.define(book, "deleteByX", 0);
        CHECK.save(book, 1, 5);
        for (int call = 20; call + 6 <= CALLS; call += 3) {
            CHECK.due("run(0)", book.run(0), -2);
            CHECK.due("run(1)", book.run(1), -1);
            CHECK.due("size()", book.size(), 1);
        }
        CHECK.due("arg(5)", book.arg(5), true);
        CHECK.due("run(0)", book.run(0), 1);
    }
}
