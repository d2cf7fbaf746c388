/** Promises 6 to 8: define, shape and part. */
public final class FindersTest {
    private static final Check CHECK = new Check();

    public static void main(String[] args) {
        subjects();
        limits();
        conditions();
        keywords();
        longestKeyword();
        orders();
        orderByAnywhere();
        tooLong();
        firstFaultIsTold();
        singles();
        noMoreThanEight();
        leavesAreSettled();
        draftAfterDefine();
        wrongNumbers();
        CHECK.end();
    }

    private static void subjects() {
        CHECK.about("6 define, subjects");
        String[] paths = {"x"};
        FinderBook book = CHECK.bookOf(paths);
        CHECK.define(book, "findBy", 0);
        CHECK.define(book, "countBy", 1);
        CHECK.define(book, "existsBy", 2);
        CHECK.define(book, "deleteBy", 3);
        for (int f = 0; f < 4; f++) {
            CHECK.shape(book, f, f, 0, 0, 0, 0, 0);
            CHECK.parts(book, f);
        }
        String[] wrong = {"", "find", "By", "ByX", "FindBy", "fin", "findB", "findby", "find_By", "find.By",
            "getBy", "findTop", "findTop3", "findTop3by", "findXBy", "find3By", "findTopFirstBy",
            "findTopTopBy", "findTop3FirstBy", "findtopBy", "findTop_By", "findTop3_By", "findcountBy", "removeBy"};
        CHECK.refuses(paths, "", wrong, -1);
        CHECK.define(book, "findByBy", -3);
    }

    private static void limits() {
        CHECK.about("6 define, limits");
        String[] good = {"findTopBy", "findFirstBy", "findTop1By", "findFirst12By", "findTop999By", "findTop001By",
            "findTop010By", "countFirst7By"};
        int[] limit = {1, 1, 1, 12, 999, 1, 10, 7};
        String[] paths = {"x"};
        FinderBook book = CHECK.bookOf(paths);
        for (int f = 0; f < good.length; f++) {
            CHECK.define(book, good[f], f);
            CHECK.due("shape(" + f + ", 1)", book.shape(f, 1), limit[f]);
        }
        String[] wrong = {"findTop0By", "findFirst00By", "findTop000By", "findTop0000By", "findTop0001By", "findTop1000By",
            "findTop99999999999999999999By", "findTop4294967297By", "findTop0ByY", "findTop1000ByOrderBy"};
        CHECK.refuses(paths, "", wrong, -2);
        CHECK.define(book, "findTop0B", -1);
        CHECK.define(book, "findTop1000", -1);
    }

    private static void conditions() {
        CHECK.about("6 define, 7 shape, 8 part: conditions");
        String[] paths = {"age", "rank", "order", "and", "ageOr", "ageAnd", "or", "android"};
        FinderBook book = CHECK.bookOf(paths);
        CHECK.define(book, "findByAgeOrRankAndAgeOrRank", 0);
        CHECK.shape(book, 0, 0, 0, 3, 4, 4, 0);
        CHECK.parts(book, 0, 0, 0, 1, 0, 0, 0, 1, 0);
        CHECK.define(book, "findByOrderAndAndroid", 1);
        CHECK.shape(book, 1, 0, 0, 1, 2, 2, 0);
        CHECK.parts(book, 1, 2, 0, 7, 0);
        CHECK.define(book, "findByAgeAndOrRank", 2);
        CHECK.shape(book, 2, 0, 0, 2, 2, 2, 0);
        CHECK.parts(book, 2, 5, 0, 1, 0);
        CHECK.define(book, "countByAgeOrOrderByRank", 3);
        CHECK.shape(book, 3, 1, 0, 1, 1, 1, 1);
        CHECK.parts(book, 3, 4, 0);
        CHECK.define(book, "findByOr", 4);
        CHECK.parts(book, 4, 6, 0);
        CHECK.define(book, "findByAnd", 5);
        CHECK.parts(book, 5, 3, 0);
        CHECK.define(book, "findByAgeAndAnd", 6);
        CHECK.parts(book, 6, 0, 0, 3, 0);
        String[] wrong = {"findByX", "findByage", "findByOrAge", "findByAndAge", "findByAgeOrOrRank", "findByAgeAndAndRank",
            "findByAgeOrAndRank", "findByOrIs", "findByAndIs", "findByAge_OrRank", "findByAgeOrX", "findByXOrAge", "findByAgeorRank",
            "findByAge.", "findBy_", "findBy.", "findBy0", "findByIs", "findByNot", "findByAgeOr_Rank"};
        CHECK.refuses(paths, "", wrong, -3);
    }

    private static void keywords() {
        CHECK.about("6 define, 7 shape, 8 part: keywords");
        String[] words = {"", "Not", "LessThan", "LessThanEqual", "GreaterThan", "GreaterThanEqual", "Between", "Null",
            "NotNull", "True", "False"};
        int[] taken = {1, 1, 1, 1, 1, 1, 2, 0, 0, 0, 0};
        for (int keyword = 0; keyword < words.length; keyword++) {
            FinderBook book = CHECK.bookOf("x", "y.z");
            CHECK.define(book, "findByY_Z" + words[keyword], 0);
            CHECK.define(book, "findByYZIs" + words[keyword], 1);
            for (int f = 0; f < 2; f++) {
                CHECK.shape(book, f, 0, 0, 1, 1, taken[keyword], 0);
                CHECK.parts(book, f, 1, keyword);
            }
        }
        String[] paths = {"x"};
        FinderBook book = CHECK.bookOf(paths);
        CHECK.define(book, "findByXEquals", 0);
        CHECK.parts(book, 0, 0, 0);
        String[] wrong = {"IsEquals", "EqualsIs", "IsIs", "NotIs", "Equal", "Less", "LessThanEquals", "IsNotTrue", "NotFalse",
            "NotNot", "IsNotIsNull", "is", "null", "Is_Null", "_Is", "_", "Between_", "BetweenNot", "GreaterThanOrEqual"};
        CHECK.refuses(paths, "findByX", wrong, -3);
    }

    private static void longestKeyword() {
        CHECK.about("8 part, the longest keyword");
        FinderBook book = CHECK.bookOf("age", "ageIs", "ageNot", "not", "notNull", "is", "equals", "ageEquals");
        String[] texts = {"AgeIs", "AgeIsIs", "AgeIsEquals", "AgeNotNull", "AgeNotNot", "NotNull", "IsNotNull", "AgeIsNotNull"};
        int[][] part = {{0, 0}, {1, 0}, {1, 0}, {0, 8}, {2, 1}, {3, 7}, {5, 8}, {0, 8}};
        for (int f = 0; f < texts.length; f++) {
            CHECK.define(book, "findBy" + texts[f], f);
            CHECK.parts(book, f, part[f]);
        }
        FinderBook other = CHECK.bookOf("age", "is", "lessThan", "isLess.than", "null", "isNull", "ageLessThan", "between");
        String[] others = {"IsIsLessThan", "LessThanLessThan", "IsLessThan", "AgeLessThanEqual", "IsNull", "IsNullNull",
            "Between", "AgeEquals"};
        int[][] otherPart = {{1, 2}, {2, 2}, {1, 2}, {0, 3}, {1, 7}, {5, 7}, {7, 0}, {0, 0}};
        for (int f = 0; f < others.length; f++) {
            CHECK.define(other, "findBy" + others[f], f);
            CHECK.parts(other, f, otherPart[f]);
        }
    }

    private static void orders() {
        CHECK.about("6 define, 7 shape: orders");
        String[] paths = {"age", "rank", "desc", "a.asc", "ascent", "descA", "ageOrderByX"};
        FinderBook book = CHECK.bookOf(paths);
        CHECK.define(book, "findByOrderByAge", 0);
        CHECK.shape(book, 0, 0, 0, 0, 0, 0, 1);
        CHECK.define(book, "findByAgeOrderByAgeAscRankDescAge", 1);
        CHECK.shape(book, 1, 0, 0, 1, 1, 1, 3);
        CHECK.define(book, "findByOrderByAscentDescAscent", 2);
        CHECK.shape(book, 2, 0, 0, 0, 0, 0, 2);
        CHECK.define(book, "findByOrderByAgeOrderByXDesc", 3);
        CHECK.shape(book, 3, 0, 0, 0, 0, 0, 1);
        String[] wrong = {"OrderBy", "OrderByAsc", "OrderByDesc", "OrderByDescDesc", "OrderByDescAsc", "OrderByA_Asc", "OrderByA_AscDesc",
            "OrderByDescA", "OrderByAgeRank", "OrderByAgeAscX", "OrderByXAge", "OrderByAgeAscDesc", "OrderByAge_Asc", "OrderByAgeDesc_Rank",
            "OrderByAgeasc", "OrderByAgeIs", "OrderByAgeAndRank", "OrderByAge.", "AgeOrderBy", "OrderByOrderByAge", "OrderByte"};
        CHECK.refuses(paths, "findBy", wrong, -4);
    }

    private static void orderByAnywhere() {
        CHECK.about("6 define, the first OrderBy counts");
        FinderBook book = CHECK.bookOf("order", "x", "reOrder", "orderB", "orderByX");
        CHECK.define(book, "findByOrderOrderByOrder", 0);
        CHECK.parts(book, 0, 0, 0);
        CHECK.shape(book, 0, 0, 0, 1, 1, 1, 1);
        CHECK.define(book, "findByReOrderByX", -3);
        CHECK.define(book, "findByOrderB", 1);
        CHECK.parts(book, 1, 3, 0);
        CHECK.define(book, "findByXOrOrderBy", -3);
        CHECK.define(book, "findByXOrOrderB", 2);
        CHECK.define(book, "findByOrderByX", 3);
        CHECK.shape(book, 3, 0, 0, 0, 0, 0, 1);
        CHECK.define(book, "findByOrderByOrderByX", 4);
        CHECK.shape(book, 4, 0, 0, 0, 0, 0, 1);
    }

    private static void tooLong() {
        CHECK.about("6 define, too long");
        FinderBook book = CHECK.bookOf("x", "y");
        CHECK.define(book, "findByXAndXOrXAndXOrYAndYBetweenOrderByXAscYDescX", 0);
        CHECK.shape(book, 0, 0, 0, 3, 6, 7, 3);
        CHECK.parts(book, 0, 0, 0, 0, 0, 0, 0, 0, 0, 1, 0, 1, 6);
        CHECK.define(book, "findByXBetweenOrXBetweenOrXBetweenOrXBetweenOrXBetweenOrYIsBetween", 1);
        CHECK.shape(book, 1, 0, 0, 6, 6, 12, 0);
        CHECK.define(book, "findByXAndXAndXAndXAndXAndXAndX", -5);
        CHECK.define(book, "findByXOrXOrXOrXOrXOrXOrX", -5);
        CHECK.define(book, "findByOrderByXAscXAscXAscX", -5);
        CHECK.define(book, "findByXAndXAndXAndXAndXAndXAndXAndZ", -3);
        CHECK.define(book, "findByXAndXAndXAndXAndXAndXAndXOrderByZ", -4);
        CHECK.define(book, "findByOrderByXAscXAscXAscXAscZ", -4);
        CHECK.define(book, "findBy" + "XOr".repeat(24) + "X", -5);
        CHECK.define(book, "findByOrderBy" + "XAsc".repeat(16) + "X", -5);
    }

    private static void firstFaultIsTold() {
        CHECK.about("6 define, the first fault");
        FinderBook book = CHECK.bookOf("x");
        CHECK.define(book, "countTop0B", true, -1);
        CHECK.define(book, "countTop0ByZOrderByZ", true, -2);
        CHECK.define(book, "countByZOrderByZ", true, -3);
        CHECK.define(book, "countByXOrderByZ", true, -4);
        CHECK.define(book, "countByXOrXOrXOrXOrXOrXOrX", true, -5);
        for (int f = 0; f < 8; f++) {
            CHECK.define(book, "findByX", f);
        }
        CHECK.define(book, "countB", true, -1);
        CHECK.define(book, "countTop0ByX", true, -2);
        CHECK.define(book, "countByZ", true, -3);
        CHECK.define(book, "countByOrderBy", true, -4);
        CHECK.define(book, "countByOrderByXAscXAscXAscX", true, -5);
        CHECK.define(book, "countByX", true, -6);
        CHECK.define(book, "countByX", false, -7);
        CHECK.define(book, "findByX", true, -7);
    }

    private static void singles() {
        CHECK.about("6 define, single");
        FinderBook book = CHECK.bookOf("x");
        CHECK.define(book, "countByX", true, -6);
        CHECK.define(book, "existsByX", true, -6);
        CHECK.define(book, "deleteByX", true, -6);
        CHECK.define(book, "findByX", true, 0);
        CHECK.define(book, "findTop2ByX", true, 1);
        CHECK.define(book, "deleteByX", false, 2);
    }

    private static void noMoreThanEight() {
        CHECK.about("6 define, eight finders");
        FinderBook book = CHECK.bookOf("x", "y");
        for (int f = 0; f < 8; f++) {
            CHECK.define(book, "findTop" + (f + 1) + "ByX", f);
        }
        CHECK.define(book, "countByYNullOrYOrderByY", -7);
        CHECK.due("shape(8, 0)", book.shape(8, 0), -1);
        CHECK.due("part(8, 0)", book.part(8, 0), -1);
        CHECK.due("run(8)", book.run(8), -1);
        for (int f = 0; f < 8; f++) {
            CHECK.shape(book, f, 0, f + 1, 1, 1, 1, 0);
            CHECK.parts(book, f, 0, 0);
        }
    }

    private static void leavesAreSettled() {
        CHECK.about("6 define, names are settled");
        FinderBook book = CHECK.bookOf("a.bC");
        CHECK.define(book, "findByABCOrderByABC", 0);
        CHECK.declare(book, "aB.c", 1);
        CHECK.define(book, "findByABCOrderByABC", 1);
        CHECK.parts(book, 0, 0, 0);
        CHECK.parts(book, 1, 1, 0);
        CHECK.save(book, 1, 5, 7);
        CHECK.save(book, 2, 5, 6);
        CHECK.run(book, 0, Check.with(5), 2);
        CHECK.results(book, 1, 2);
        CHECK.run(book, 1, Check.with(5), 0);
    }

    private static void draftAfterDefine() {
        CHECK.about("6 define, the draft");
        FinderBook book = CHECK.bookOf("x");
        CHECK.write(book, "countBy");
        CHECK.due("define(true)", book.define(true), -6);
        book.type('Y');
        CHECK.due("define(false) of countByY", book.define(false), -3);
        CHECK.write(book, "countByX");
        CHECK.due("define(false)", book.define(false), 0);
        CHECK.due("define(false) of nothing", book.define(false), -1);
        CHECK.write(book, "findB");
        CHECK.due("define(true)", book.define(true), -1);
        book.type('y');
        CHECK.due("define(true) of findBy", book.define(true), 1);
        book.type('z');
        CHECK.due("declare() of z", book.declare(), 1);
    }

    private static void wrongNumbers() {
        CHECK.about("7 shape, 8 part: wrong numbers");
        FinderBook book = CHECK.bookOf("x");
        CHECK.define(book, "existsFirst5ByXNullOrderByX", 0);
        CHECK.shape(book, 0, 2, 5, 1, 1, 0, 1);
        int[] wrong = {-1, 6, Integer.MIN_VALUE, Integer.MAX_VALUE};
        for (int n : wrong) {
            CHECK.due("shape(0, " + n + ")", book.shape(0, n), -1);
            CHECK.due("shape(" + n + ", 0)", book.shape(n, 0), -1);
            CHECK.due("part(0, " + n + ")", book.part(0, n), -1);
            CHECK.due("part(" + n + ", 0)", book.part(n, 0), -1);
        }
        CHECK.due("shape(1, 0)", book.shape(1, 0), -1);
        CHECK.due("part(1, 0)", book.part(1, 0), -1);
        CHECK.due("part(0, 0)", book.part(0, 0), 7);
    }
}
