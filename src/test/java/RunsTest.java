/** Promises 13 to 16: arg, run, results and result. */
public final class RunsTest {
    private static final Check CHECK = new Check();

    public static void main(String[] args) {
        noMoreThanTwelveArguments();
        argumentsAreUsedUp();
        keywordsHold();
        extremesAreCompared();
        alternativesAndParts();
        argumentsInTheOrderOfTheText();
        ordersAreStable();
        limitsTakeTheFirst();
        subjectsAnswer();
        deleteRemovesTheFinding();
        singleFindsOne();
        resultsStay();
        CHECK.end();
    }

    private static void noMoreThanTwelveArguments() {
        CHECK.about("13 arg, twelve");
        FinderBook book = CHECK.bookOf("x");
        CHECK.define(book, "findByXBetweenOrXBetweenOrXBetweenOrXBetweenOrXBetweenOrXBetween", 0);
        CHECK.save(book, 1, 12);
        CHECK.save(book, 2, 13);
        for (int i = 1; i <= 12; i++) {
            CHECK.due("arg(" + i + ")", book.arg(i), true);
        }
        CHECK.due("arg(13)", book.arg(13), false);
        CHECK.due("run(0)", book.run(0), 1);
        CHECK.results(book, 1);
        CHECK.due("arg(13)", book.arg(13), true);
        CHECK.due("run(0)", book.run(0), -2);
    }

    private static void argumentsAreUsedUp() {
        CHECK.about("14 run, arguments");
        FinderBook book = CHECK.bookOf("x");
        CHECK.define(book, "findByX", 0);
        CHECK.define(book, "findBy", 1);
        CHECK.save(book, 1, 5);
        CHECK.save(book, 2, 6);
        CHECK.run(book, 0, Check.with(5), 1);
        CHECK.due("run(0), for they were used up", book.run(0), -2);
        CHECK.results(book, 1);
        CHECK.run(book, 1, Check.with(5), -2);
        CHECK.results(book, 1);
        CHECK.due("run(1), for they were used up, too", book.run(1), 2);
        CHECK.run(book, 0, Check.with(6, 6), -2);
        int[] wrong = {-1, 2, 8, 9, Integer.MIN_VALUE, Integer.MAX_VALUE};
        CHECK.due("arg(6)", book.arg(6), true);
        for (int f : wrong) {
            CHECK.due("run(" + f + ")", book.run(f), -1);
        }
        CHECK.results(book, 1, 2);
        CHECK.due("run(0), for they stayed", book.run(0), 1);
        CHECK.results(book, 2);
    }

    private static void keywordsHold() {
        CHECK.about("14 run, keywords");
        String[] words = {"", "Not", "LessThan", "LessThanEqual", "GreaterThan", "GreaterThanEqual", "Between", "Null",
            "NotNull", "True", "False"};
        // Entities 1 to 6 have null, -1, 0, 1, 2 and 3.
        int[][] found = {{4}, {2, 3, 5, 6}, {2, 3}, {2, 3, 4}, {5, 6}, {4, 5, 6}, {4, 5}, {1}, {2, 3, 4, 5, 6}, {2, 4, 5, 6}, {3}};
        for (int keyword = 0; keyword < words.length; keyword++) {
            FinderBook book = CHECK.bookOf("w", "x");
            Integer[] values = {null, -1, 0, 1, 2, 3};
            for (int i = 0; i < values.length; i++) {
                CHECK.save(book, i + 1, 9, values[i]);
            }
            CHECK.define(book, "findByX" + words[keyword], 0);
            CHECK.define(book, "findByXIs" + words[keyword], 1);
            int taken = book.shape(0, 4);
            int[] arguments = taken == 2 ? Check.with(1, 2) : taken == 1 ? Check.with(1) : Check.with();
            for (int f = 0; f < 2; f++) {
                CHECK.run(book, f, arguments, found[keyword].length);
                CHECK.results(book, found[keyword]);
            }
        }
    }

    private static void extremesAreCompared() {
        CHECK.about("14 run, extremes");
        FinderBook book = CHECK.bookOf("x");
        CHECK.save(book, 1, Integer.MAX_VALUE);
        CHECK.save(book, 2, (Integer) null);
        CHECK.save(book, 3, Integer.MIN_VALUE);
        CHECK.define(book, "findByOrderByX", 0);
        CHECK.run(book, 0, Check.with(), 3);
        CHECK.results(book, 2, 3, 1);
        CHECK.define(book, "findByOrderByXDesc", 1);
        CHECK.run(book, 1, Check.with(), 3);
        CHECK.results(book, 1, 3, 2);
        CHECK.define(book, "findByXBetween", 2);
        CHECK.run(book, 2, Check.with(Integer.MIN_VALUE, Integer.MAX_VALUE), 2);
        CHECK.run(book, 2, Check.with(1, 0), 0);
        CHECK.results(book);
        CHECK.define(book, "findByXLessThan", 3);
        CHECK.run(book, 3, Check.with(Integer.MIN_VALUE), 0);
        CHECK.run(book, 3, Check.with(Integer.MAX_VALUE), 1);
        CHECK.results(book, 3);
        // An int that is FinderBook.NULL cut off is a value like others.
        CHECK.save(book, 4, (int) FinderBook.NULL);
        CHECK.define(book, "findByXNull", 4);
        CHECK.run(book, 4, Check.with(), 1);
        CHECK.results(book, 2);
    }

    private static void alternativesAndParts() {
        CHECK.about("14 run, alternatives and parts");
        FinderBook book = CHECK.bookOf("x", "y");
        CHECK.save(book, 1, 1, 1);
        CHECK.save(book, 2, 1, 2);
        CHECK.save(book, 3, 2, 1);
        CHECK.save(book, 4, 2, 2);
        CHECK.define(book, "findByXAndY", 0);
        CHECK.run(book, 0, Check.with(1, 2), 1);
        CHECK.results(book, 2);
        CHECK.define(book, "findByXOrY", 1);
        CHECK.run(book, 1, Check.with(1, 2), 3);
        CHECK.results(book, 1, 2, 4);
        CHECK.define(book, "findByXAndYOrXAndY", 2);
        CHECK.run(book, 2, Check.with(1, 1, 2, 2), 2);
        CHECK.results(book, 1, 4);
        CHECK.define(book, "findByXOrYAndXOrY", 3);
        CHECK.run(book, 3, Check.with(7, 1, 2, 7), 1);
        CHECK.results(book, 3);
        CHECK.define(book, "findBy", 4);
        CHECK.run(book, 4, Check.with(), 4);
        CHECK.define(book, "findByXOrY", 5);
        CHECK.run(book, 5, Check.with(7, 7), 0);
        CHECK.results(book);
    }

    private static void argumentsInTheOrderOfTheText() {
        CHECK.about("14 run, the order of the arguments");
        FinderBook book = CHECK.bookOf("x", "y", "z");
        CHECK.define(book, "findByYBetweenAndXNotNullAndZOrXTrueAndZBetweenAndXNot", 0);
        CHECK.shape(book, 0, 0, 0, 2, 6, 6, 0);
        CHECK.save(book, 1, 0, 5, 30);
        CHECK.save(book, 2, 1, 9, 45);
        CHECK.save(book, 3, 2, 9, 45);
        CHECK.save(book, 4, 0, 9, 30);
        CHECK.run(book, 0, Check.with(4, 6, 30, 40, 50, 2), 2);
        CHECK.results(book, 1, 2);
    }

    private static void ordersAreStable() {
        CHECK.about("14 run, orders");
        FinderBook book = CHECK.bookOf("x", "y", "z");
        CHECK.save(book, 5, 2, 1, 1);
        CHECK.save(book, 3, 1, null, 2);
        CHECK.save(book, 9, 2, 1, 3);
        CHECK.save(book, 1, null, 4, 4);
        CHECK.save(book, 7, 1, 3, 5);
        CHECK.save(book, 2, 2, 0, 6);
        String[] orders = {"X", "XDesc", "XAscY", "XDescYDesc", "YAscXDesc", "YDescXAscZDesc", "ZDesc"};
        int[][] want = {{1, 3, 7, 5, 9, 2}, {5, 9, 2, 3, 7, 1}, {1, 3, 7, 2, 5, 9}, {5, 9, 2, 7, 3, 1}, {3, 2, 5, 9, 7, 1},
            {1, 7, 9, 5, 2, 3}, {2, 7, 1, 9, 3, 5}};
        for (int f = 0; f < orders.length; f++) {
            CHECK.define(book, "findByOrderBy" + orders[f], f);
            CHECK.run(book, f, Check.with(), 6);
            CHECK.results(book, want[f]);
        }
    }

    private static void limitsTakeTheFirst() {
        CHECK.about("14 run, limits");
        FinderBook book = CHECK.bookOf("x");
        for (int id = 1; id <= 10; id++) {
            CHECK.save(book, id, id * 7 % 11);
        }
        CHECK.define(book, "findTop3ByOrderByX", 0);
        CHECK.run(book, 0, Check.with(), 3);
        CHECK.results(book, 8, 5, 2);
        CHECK.define(book, "findFirstByXGreaterThan", 1);
        CHECK.run(book, 1, Check.with(7), 1);
        CHECK.results(book, 3);
        CHECK.define(book, "findTop10By", 2);
        CHECK.run(book, 2, Check.with(), 10);
        CHECK.define(book, "findTop999By", 3);
        CHECK.run(book, 3, Check.with(), 10);
        CHECK.define(book, "countTop4By", 4);
        CHECK.run(book, 4, Check.with(), 4);
        CHECK.define(book, "existsTop4By", 5);
        CHECK.run(book, 5, Check.with(), 1);
        CHECK.define(book, "deleteTop2ByXLessThanOrderByXDesc", 6);
        CHECK.run(book, 6, Check.with(9), 2);
        CHECK.due("value(9, 0), which is 8", book.value(9, 0), FinderBook.NONE);
        CHECK.due("value(1, 0), which is 7", book.value(1, 0), FinderBook.NONE);
        CHECK.due("size()", book.size(), 8);
        CHECK.run(book, 2, Check.with(), 8);
        CHECK.results(book, 2, 3, 4, 5, 6, 7, 8, 10);
    }

    private static void subjectsAnswer() {
        CHECK.about("14 run, subjects");
        FinderBook book = CHECK.bookOf("x");
        CHECK.define(book, "findByX", 0);
        CHECK.define(book, "countByX", 1);
        CHECK.define(book, "existsByX", 2);
        CHECK.define(book, "deleteByX", 3);
        CHECK.save(book, 1, 5);
        CHECK.save(book, 2, 5);
        CHECK.save(book, 3, 6);
        for (int f = 1; f <= 3; f++) {
            CHECK.run(book, 0, Check.with(5), 2);
            CHECK.results(book, 1, 2);
            CHECK.run(book, f, Check.with(7), 0);
            CHECK.results(book);
        }
        CHECK.run(book, 1, Check.with(5), 2);
        CHECK.results(book);
        CHECK.run(book, 0, Check.with(5), 2);
        CHECK.run(book, 2, Check.with(5), 1);
        CHECK.results(book);
        CHECK.run(book, 2, Check.with(6), 1);
        CHECK.due("size()", book.size(), 3);
        CHECK.run(book, 0, Check.with(5), 2);
        CHECK.run(book, 3, Check.with(5), 2);
        CHECK.results(book);
        CHECK.due("size()", book.size(), 1);
        CHECK.due("value(3, 0)", book.value(3, 0), 6);
        CHECK.run(book, 0, Check.with(5), 0);
    }

    private static void deleteRemovesTheFinding() {
        CHECK.about("14 run, delete");
        FinderBook book = CHECK.bookOf("x");
        CHECK.define(book, "deleteByXOrderByXDesc", 0);
        CHECK.define(book, "findBy", 1);
        CHECK.define(book, "deleteBy", 2);
        for (int id = 1; id <= 10; id++) {
            CHECK.save(book, id, id % 2);
        }
        CHECK.run(book, 0, Check.with(1), 5);
        CHECK.run(book, 1, Check.with(), 5);
        CHECK.results(book, 2, 4, 6, 8, 10);
        CHECK.save(book, 1, 8);
        CHECK.run(book, 1, Check.with(), 6);
        CHECK.results(book, 2, 4, 6, 8, 10, 1);
        CHECK.run(book, 2, Check.with(), 6);
        CHECK.due("size()", book.size(), 0);
        CHECK.run(book, 2, Check.with(), 0);
        CHECK.due("remove(1)", book.remove(1), false);
    }

    private static void singleFindsOne() {
        CHECK.about("14 run, single");
        FinderBook book = CHECK.bookOf("x");
        CHECK.define(book, "findByX", true, 0);
        CHECK.define(book, "findTopByX", true, 1);
        CHECK.define(book, "findTop2ByX", true, 2);
        CHECK.define(book, "findByX", false, 3);
        CHECK.save(book, 1, 5);
        CHECK.save(book, 2, 6);
        CHECK.save(book, 3, 6);
        CHECK.run(book, 0, Check.with(5), 1);
        CHECK.results(book, 1);
        CHECK.run(book, 0, Check.with(6), -3);
        CHECK.results(book);
        CHECK.due("run(0), for the arguments were used up", book.run(0), -2);
        CHECK.run(book, 0, Check.with(7), 0);
        CHECK.results(book);
        CHECK.run(book, 1, Check.with(6), 1);
        CHECK.results(book, 2);
        CHECK.run(book, 2, Check.with(6), -3);
        CHECK.results(book);
        CHECK.run(book, 3, Check.with(6), 2);
        CHECK.results(book, 2, 3);
    }

    private static void resultsStay() {
        CHECK.about("15 results, 16 result");
        FinderBook book = CHECK.bookOf("x");
        CHECK.results(book);
        CHECK.define(book, "findBy", 0);
        CHECK.save(book, 4, 1);
        CHECK.save(book, 8, 2);
        CHECK.results(book);
        CHECK.run(book, 0, Check.with(), 2);
        CHECK.results(book, 4, 8);
        CHECK.due("remove(4)", book.remove(4), true);
        CHECK.save(book, 9, 3);
        CHECK.results(book, 4, 8);
        CHECK.run(book, 1, Check.with(), -1);
        CHECK.results(book, 4, 8);
        CHECK.run(book, 0, Check.with(1), -2);
        CHECK.results(book, 4, 8);
        CHECK.due("result(MAX)", book.result(Integer.MAX_VALUE), 0);
        CHECK.due("result(MIN)", book.result(Integer.MIN_VALUE), 0);
        CHECK.run(book, 0, Check.with(), 2);
        CHECK.results(book, 8, 9);
        CHECK.due("remove(8)", book.remove(8), true);
        CHECK.run(book, 0, Check.with(), 1);
        CHECK.results(book, 9);
    }
}
