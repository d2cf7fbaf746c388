/** Promises 9 to 12, 17 and 18: fill, blank, save, remove, value and size. */
public final class EntitiesTest {
    private static final int[] WRONG = {-1, 2, 7, 8, 9, Integer.MIN_VALUE, Integer.MAX_VALUE};
    private static final Check CHECK = new Check();

    public static void main(String[] args) {
        fillAndBlank();
        laterLeaves();
        saveKeepsItsIds();
        saveStopsAtTen();
        saveStandsWhereItStood();
        removeTakesOne();
        valueAnswers();
        CHECK.end();
    }

    private static void fillAndBlank() {
        CHECK.about("9 fill, 10 blank");
        FinderBook book = CHECK.bookOf("x", "y");
        for (int leaf : WRONG) {
            CHECK.due("fill(" + leaf + ", 1)", book.fill(leaf, 1), false);
            CHECK.due("blank(" + leaf + ")", book.blank(leaf), false);
        }
        CHECK.due("save(1)", book.save(1), true);
        CHECK.due("fill(0, 3)", book.fill(0, 3), true);
        CHECK.due("value(1, 0), for fill fills the form", book.value(1, 0), FinderBook.NULL);
        CHECK.due("fill(1, MIN)", book.fill(1, Integer.MIN_VALUE), true);
        CHECK.due("save(2)", book.save(2), true);
        CHECK.due("fill(1, MAX)", book.fill(1, Integer.MAX_VALUE), true);
        CHECK.due("blank(0)", book.blank(0), true);
        CHECK.due("blank(0) again", book.blank(0), true);
        CHECK.due("save(3)", book.save(3), true);
        CHECK.due("value(1, 0)", book.value(1, 0), FinderBook.NULL);
        CHECK.due("value(1, 1)", book.value(1, 1), FinderBook.NULL);
        CHECK.due("value(2, 0)", book.value(2, 0), 3);
        CHECK.due("value(2, 1)", book.value(2, 1), Integer.MIN_VALUE);
        CHECK.due("value(3, 0)", book.value(3, 0), FinderBook.NULL);
        CHECK.due("value(3, 1)", book.value(3, 1), Integer.MAX_VALUE);
    }

    private static void laterLeaves() {
        CHECK.about("11 save, leaves that are declared later");
        FinderBook book = CHECK.bookOf("x");
        CHECK.save(book, 1, 4);
        CHECK.declare(book, "y", 1);
        CHECK.due("value(1, 1)", book.value(1, 1), FinderBook.NULL);
        CHECK.save(book, 2);
        CHECK.due("value(2, 0)", book.value(2, 0), 4);
        CHECK.due("value(2, 1), for the form has null, too", book.value(2, 1), FinderBook.NULL);
        CHECK.define(book, "countByYNull", 0);
        CHECK.run(book, 0, Check.with(), 2);
    }

    private static void saveKeepsItsIds() {
        CHECK.about("11 save, ids");
        FinderBook book = CHECK.bookOf("x");
        int[] wrong = {0, -1, 10000, Integer.MIN_VALUE, Integer.MAX_VALUE};
        for (int id : wrong) {
            CHECK.due("save(" + id + ")", book.save(id), false);
        }
        CHECK.due("size()", book.size(), 0);
        CHECK.due("save(1)", book.save(1), true);
        CHECK.due("save(9999)", book.save(9999), true);
        CHECK.due("size()", book.size(), 2);
        CHECK.due("value(0, 0)", book.value(0, 0), FinderBook.NONE);
    }

    private static void saveStopsAtTen() {
        CHECK.about("11 save, 18 size: ten entities");
        FinderBook book = CHECK.bookOf("x");
        for (int id = 1; id <= 10; id++) {
            CHECK.save(book, id, id);
            CHECK.due("size()", book.size(), id);
        }
        CHECK.due("save(11)", book.save(11), false);
        CHECK.due("size()", book.size(), 10);
        CHECK.due("value(11, 0)", book.value(11, 0), FinderBook.NONE);
        CHECK.due("save(10000)", book.save(10000), false);
        CHECK.save(book, 4, 44);
        CHECK.due("size()", book.size(), 10);
        CHECK.due("value(4, 0)", book.value(4, 0), 44);
        CHECK.due("value(10, 0)", book.value(10, 0), 10);
        CHECK.due("remove(1)", book.remove(1), true);
        CHECK.due("save(11)", book.save(11), true);
        CHECK.due("size()", book.size(), 10);
        CHECK.define(book, "findBy", 0);
        CHECK.run(book, 0, Check.with(), 10);
        CHECK.results(book, 2, 3, 4, 5, 6, 7, 8, 9, 10, 11);
    }

    private static void saveStandsWhereItStood() {
        CHECK.about("11 save, 12 remove: the order");
        FinderBook book = CHECK.bookOf("x");
        CHECK.define(book, "findBy", 0);
        CHECK.save(book, 30, 1);
        CHECK.save(book, 10, 2);
        CHECK.save(book, 20, 3);
        CHECK.save(book, 30, 9);
        CHECK.run(book, 0, Check.with(), 3);
        CHECK.results(book, 30, 10, 20);
        CHECK.due("remove(30)", book.remove(30), true);
        CHECK.save(book, 30, 7);
        CHECK.run(book, 0, Check.with(), 3);
        CHECK.results(book, 10, 20, 30);
        CHECK.due("value(30, 0)", book.value(30, 0), 7);
        CHECK.due("value(10, 0)", book.value(10, 0), 2);
        CHECK.due("value(20, 0)", book.value(20, 0), 3);
    }

    private static void removeTakesOne() {
        CHECK.about("12 remove");
        FinderBook book = CHECK.bookOf("x");
        CHECK.save(book, 1, 1);
        CHECK.save(book, 2, 2);
        CHECK.save(book, 3, 3);
        int[] wrong = {0, 4, -1, Integer.MIN_VALUE, Integer.MAX_VALUE};
        for (int id : wrong) {
            CHECK.due("remove(" + id + ")", book.remove(id), false);
        }
        CHECK.due("size()", book.size(), 3);
        CHECK.due("remove(2)", book.remove(2), true);
        CHECK.due("remove(2) again", book.remove(2), false);
        CHECK.due("size()", book.size(), 2);
        CHECK.due("value(2, 0)", book.value(2, 0), FinderBook.NONE);
        CHECK.due("value(3, 0)", book.value(3, 0), 3);
        CHECK.due("remove(3)", book.remove(3), true);
        CHECK.due("remove(1)", book.remove(1), true);
        CHECK.due("remove(1) again", book.remove(1), false);
        CHECK.due("size()", book.size(), 0);
    }

    private static void valueAnswers() {
        CHECK.about("17 value");
        FinderBook book = CHECK.bookOf("x", "y");
        CHECK.save(book, 5, 0, null);
        CHECK.due("value(5, 0)", book.value(5, 0), 0);
        CHECK.due("value(5, 1)", book.value(5, 1), FinderBook.NULL);
        for (int leaf : WRONG) {
            CHECK.due("value(5, " + leaf + ")", book.value(5, leaf), FinderBook.NONE);
        }
        int[] wrong = {0, 4, 6, -5, Integer.MIN_VALUE, Integer.MAX_VALUE};
        for (int id : wrong) {
            CHECK.due("value(" + id + ", 0)", book.value(id, 0), FinderBook.NONE);
        }
        CHECK.due("NULL", FinderBook.NULL, 3000000000L);
        CHECK.due("NONE", FinderBook.NONE, 4000000000L);
    }
}
