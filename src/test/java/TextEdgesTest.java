import java.util.Arrays;

/** The edges that "Terms" names of the text of a finder, of its condition and of its orders. */
public final class TextEdgesTest {
    private static final Check CHECK = new Check();

    public static void main(String[] args) {
        subjectIsOneOfFour();
        subjectStandsAtTheBeginning();
        topOrFirstMayStandBehind();
        figuresStandOnlyBehindTopOrFirst();
        byStandsBehindThat();
        restMayBeEmpty();
        limitIsTheNumberOfAllFigures();
        limitIsOneWithoutFigures();
        limitIsNoneWithoutTopOrFirst();
        orderByMayStandAnywhereInTheRest();
        firstOrderByCounts();
        restWithoutOrderByIsTheCondition();
        orIsACutBeforeACapital();
        orIsNoCutElsewhere();
        orAtTheEndOfTheConditionIsNoCut();
        andIsACutBeforeACapital();
        andIsNoCutElsewhere();
        andAtTheEndOfItsAlternativeIsNoCut();
        orCutsBeforeAndDoes();
        emptyPartsAreParts();
        emptyConditionHasNoParts();
        keywordIsTheLongestBehindALeaf();
        keywordMayHaveIsBeforeIt();
        keywordIsTheWholeEnd();
        keywordTakesItsArguments();
        ordersAreCutBeforeACapital();
        ordersAreNotCutElsewhere();
        directionIsAlwaysTakenOff();
        ordersHaveNoOtherWords();
        CHECK.end();
    }

    private static void refuses(int want, String[] paths, String... texts) {
        for (String text : texts) {
            new Book(CHECK, paths).define(text, want);
        }
    }

    private static String[] leaves(String... paths) {
        return paths;
    }

    private static void subjectIsOneOfFour() {
        CHECK.about("Terms: the subject, which is find, count, exists or delete");
        new Book(CHECK).define("findBy", 0).define("countBy", 1).define("existsBy", 2).define("deleteBy", 3)
            .shape(0, 0, 0).shape(1, 0, 1).shape(2, 0, 2).shape(3, 0, 3);
        refuses(-1, leaves("x"), "", "By", "ByX", "getBy", "readBy", "removeBy", "findsBy", "countsBy", "existBy", "deletesBy", "finBy",
            "inBy", "FindBy", "FINDBy", "CountBy", "ExistsBy", "DeleteBy", "X", "findcountBy", "find_By", "find.By");
    }

    private static void subjectStandsAtTheBeginning() {
        CHECK.about("Terms: the text of a finder is, from the beginning");
        refuses(-1, leaves("x"), "xfindBy", "_findBy", ".findBy", "1findByX", "ByfindBy", "Topfind", "Top1findBy", "afindByX");
    }

    private static void topOrFirstMayStandBehind() {
        CHECK.about("Terms: perhaps Top or First");
        new Book(CHECK).define("findBy", 0).define("findTopBy", 1).define("findFirstBy", 2).define("deleteTopBy", 3)
            .define("countFirstBy", 4).define("existsTop2By", 5);
        refuses(-1, leaves("x"), "findtopBy", "findTOPBy", "findfirstBy", "findToBy", "findFirsBy", "findTopFirstBy", "findFirstTopBy",
            "findTopTopBy", "findTop1FirstBy", "findTop1Top1By", "findLastBy", "findAllBy", "find_TopBy", "findTop_By", "findXBy");
    }

    private static void figuresStandOnlyBehindTopOrFirst() {
        CHECK.about("Terms: and behind that perhaps figures");
        new Book(CHECK).define("findTop0123By", -2).define("findTop9By", 0).shape(0, 1, 9).define("findFirst10By", 1).shape(1, 1, 10);
        refuses(-1, leaves("x"), "find1By", "find1TopBy", "findTop_1By", "findTop1_By", "findTop1.By", "findTop1a2By", "find1", "1");
    }

    private static void byStandsBehindThat() {
        CHECK.about("Terms: By");
        new Book(CHECK, "x").define("findB", -1).type('y', true).define(false, 0);
        new Book(CHECK, "x").define("findTop1B", -1).type('y', true).define(false, 0);
        refuses(-1, leaves("x"), "find", "findX", "findy", "findby", "findBY", "findbyX", "findTop", "findTop1", "findTop1X", "findTopX",
            "findFirst", "findFirst999", "findXByX", "findOrderByX", "findTop1OrderByX");
        // By is taken off once: what follows is the rest.
        new Book(CHECK, "by").define("findByBy", 0).parts(0, 0, 0).define("findTopByBy", 1).parts(1, 0, 0);
    }

    private static void restMayBeEmpty() {
        CHECK.about("Terms: the rest, which may be empty");
        for (String begin : new String[] {"findBy", "countBy", "existsBy", "deleteBy", "findTopBy", "findFirst3By"}) {
            new Book(CHECK).define(begin, 0).shape(0, 2, 0).shape(0, 3, 0).shape(0, 4, 0).shape(0, 5, 0).parts(0);
        }
    }

    private static void limitIsTheNumberOfAllFigures() {
        CHECK.about("Terms: the limit is the number that the figures say");
        String[] figures = {"1", "9", "10", "12", "99", "100", "998", "999", "01", "09", "001", "010", "100"};
        for (String text : figures) {
            new Book(CHECK).define("findTop" + text + "By", 0).shape(0, 1, Integer.parseInt(text));
            new Book(CHECK).define("countFirst" + text + "By", 0).shape(0, 1, Integer.parseInt(text));
        }
    }

    private static void limitIsOneWithoutFigures() {
        CHECK.about("Terms: 1 when Top or First stands without figures");
        new Book(CHECK, "x").define("findTopBy", 0).shape(0, 1, 1).define("findFirstByX", 1).shape(1, 1, 1)
            .define("deleteTopByOrderByX", 2).shape(2, 1, 1).entity(1, 5).entity(2, 5).run(0, 1).results(1);
    }

    private static void limitIsNoneWithoutTopOrFirst() {
        CHECK.about("Terms: there is none without Top or First");
        Book book = new Book(CHECK, "top").define("findBy", 0).shape(0, 1, 0).define("findByTop", 1).shapes(1, 0, 0, 1, 1, 1, 0);
        for (int id = 1; id <= 10; id++) {
            book.entity(id, 1);
        }
        book.run(0, 10).args(1).run(1, 10);
    }

    private static void orderByMayStandAnywhereInTheRest() {
        CHECK.about("Terms: if OrderBy stands anywhere in the rest");
        new Book(CHECK, "x").define("findByOrderByX", 0).shapes(0, 0, 0, 0, 0, 0, 1);
        new Book(CHECK, "x").define("findByXOrderByX", 0).shapes(0, 0, 0, 1, 1, 1, 1);
        // Also where it would be a piece of a leaf's name.
        new Book(CHECK, "xOrderByX", "x").define("findByXOrderByX", 0).parts(0, 1, 0).shape(0, 5, 1);
        new Book(CHECK, "orderByte").define("findByOrderByte", -4);
        new Book(CHECK, "reOrderBy").define("findByReOrderBy", -3);
        new Book(CHECK, "re", "reOrderBy").define("findByReOrderBy", -4);
        new Book(CHECK, "x").define("findByXOrderBy", -4).type('X', true).define(false, 0).shape(0, 5, 1);
        // Not before the rest, and not only a piece of it.
        new Book(CHECK, "orderB", "order", "x").define("findByOrderB", 0).parts(0, 0, 0).define("findByOrder", 1).parts(1, 1, 0)
            .define("findByXorderByX", -3).define("findByXOrderbyX", -3).define("findByXOrder_ByX", -3);
    }

    private static void firstOrderByCounts() {
        CHECK.about("Terms: the first place counts");
        new Book(CHECK, "x", "xOrderByX").define("findByXOrderByXOrderByX", 0).shapes(0, 0, 0, 1, 1, 1, 1).parts(0, 0, 0);
        new Book(CHECK, "orderByX").define("findByOrderByOrderByX", 0).shapes(0, 0, 0, 0, 0, 0, 1);
        new Book(CHECK, "x", "xOrderByX").define("findByXOrderByXAscOrderByX", -4);
        new Book(CHECK, "x", "y").define("findByXOrderByXOrderByY", -4).define("findByOrderByOrderBy", -4);
        // What is before has none of it, what is behind may begin with a part of it.
        new Book(CHECK, "order").define("findByOrderOrderByOrder", 0).shapes(0, 0, 0, 1, 1, 1, 1).parts(0, 0, 0);
    }

    private static void restWithoutOrderByIsTheCondition() {
        CHECK.about("Terms: otherwise the rest is the condition and there are no orders");
        new Book(CHECK, "x", "xDesc").define("findByX", 0).shape(0, 5, 0).define("findByXDesc", 1).parts(1, 1, 0).shape(1, 5, 0)
            .define("findByXAsc", -3);
    }

    private static void orIsACutBeforeACapital() {
        CHECK.about("Terms: cut wherever Or stands in it with a capital of the condition behind it");
        new Book(CHECK, "x", "a", "z", "xOrA").define("findByXOrA", 0).shapes(0, 0, 0, 2, 2, 2, 0).parts(0, 0, 0, 1, 0)
            .define("findByXOrZ", 1).shapes(1, 0, 0, 2, 2, 2, 0).parts(1, 0, 0, 2, 0)
            .define("findByXOrAOrZ", 2).shapes(2, 0, 0, 3, 3, 3, 0).parts(2, 0, 0, 1, 0, 2, 0);
        new Book(CHECK, "x", "or").define("findByXOrOr", 0).shapes(0, 0, 0, 2, 2, 2, 0).parts(0, 0, 0, 1, 0);
    }

    private static void orIsNoCutElsewhere() {
        CHECK.about("Terms: Or with no capital behind it");
        new Book(CHECK, "x", "xOra").define("findByXOra", 0).shapes(0, 0, 0, 1, 1, 1, 0).parts(0, 1, 0);
        new Book(CHECK, "x", "xOrz").define("findByXOrz", 0).parts(0, 1, 0);
        new Book(CHECK, "x", "xOr0").define("findByXOr0", 0).parts(0, 1, 0);
        new Book(CHECK, "x", "xOr9").define("findByXOr9", 0).parts(0, 1, 0);
        new Book(CHECK, "x", "xOr.a", "a").define("findByXOr_A", 0).parts(0, 1, 0).define("findByXOrA", 1).parts(1, 0, 0, 2, 0);
        new Book(CHECK, "x", "a").define("findByXOr.A", -3).define("findByX_OrA", -3).define("findByXOr_A", -3);
        new Book(CHECK, "x", "a", "xorA", "xORA").define("findByXorA", 0).parts(0, 2, 0).define("findByXORA", 1).parts(1, 3, 0);
        new Book(CHECK, "order").define("findByOrder", 0).parts(0, 0, 0);
    }

    private static void orAtTheEndOfTheConditionIsNoCut() {
        CHECK.about("Terms: Or with nothing of the condition behind it");
        new Book(CHECK, "x", "xOr", "or").define("findByXOr", 0).shapes(0, 0, 0, 1, 1, 1, 0).parts(0, 1, 0)
            .define("findByXOrOrderByX", 1).shapes(1, 0, 0, 1, 1, 1, 1).parts(1, 1, 0)
            .define("findByOr", 2).parts(2, 2, 0).define("findByOrOrderByX", 3).shapes(3, 0, 0, 1, 1, 1, 1).parts(3, 2, 0);
        new Book(CHECK, "x").define("findByXOr", -3).define("findByXOrOrderByX", -3).define("findByOr", -3);
    }

    private static void andIsACutBeforeACapital() {
        CHECK.about("Terms: cut wherever And stands in it with a capital of that alternative behind it");
        new Book(CHECK, "x", "a", "z", "xAndA").define("findByXAndA", 0).shapes(0, 0, 0, 1, 2, 2, 0).parts(0, 0, 0, 1, 0)
            .define("findByXAndZ", 1).shapes(1, 0, 0, 1, 2, 2, 0).parts(1, 0, 0, 2, 0)
            .define("findByXAndAAndZ", 2).shapes(2, 0, 0, 1, 3, 3, 0).parts(2, 0, 0, 1, 0, 2, 0);
        new Book(CHECK, "x", "and", "or").define("findByXAndAnd", 0).shapes(0, 0, 0, 1, 2, 2, 0).parts(0, 0, 0, 1, 0)
            .define("findByXAndOr", 1).shapes(1, 0, 0, 1, 2, 2, 0).parts(1, 0, 0, 2, 0);
        new Book(CHECK, "x", "y").define("findByXOrYAndXOrYAndXAndY", 0).shapes(0, 0, 0, 3, 6, 6, 0);
    }

    private static void andIsNoCutElsewhere() {
        CHECK.about("Terms: And with no capital behind it");
        new Book(CHECK, "x", "xAnda").define("findByXAnda", 0).shapes(0, 0, 0, 1, 1, 1, 0).parts(0, 1, 0);
        new Book(CHECK, "x", "xAndz").define("findByXAndz", 0).parts(0, 1, 0);
        new Book(CHECK, "x", "xAnd0").define("findByXAnd0", 0).parts(0, 1, 0);
        new Book(CHECK, "x", "xAnd9").define("findByXAnd9", 0).parts(0, 1, 0);
        new Book(CHECK, "x", "xAnd.a", "a").define("findByXAnd_A", 0).parts(0, 1, 0).define("findByXAndA", 1).parts(1, 0, 0, 2, 0);
        new Book(CHECK, "x", "a").define("findByXAnd.A", -3).define("findByX_AndA", -3).define("findByXAnd_A", -3);
        new Book(CHECK, "x", "a", "xandA", "xANDA").define("findByXandA", 0).parts(0, 2, 0).define("findByXANDA", 1).parts(1, 3, 0);
        new Book(CHECK, "android").define("findByAndroid", 0).parts(0, 0, 0);
    }

    private static void andAtTheEndOfItsAlternativeIsNoCut() {
        CHECK.about("Terms: And with nothing of that alternative behind it");
        new Book(CHECK, "x", "xAnd", "and").define("findByXAnd", 0).parts(0, 1, 0)
            .define("findByXAndOrX", 1).shapes(1, 0, 0, 2, 2, 2, 0).parts(1, 1, 0, 0, 0)
            .define("findByXAndOrderByX", 2).shapes(2, 0, 0, 1, 1, 1, 1).parts(2, 1, 0)
            .define("findByAndOrX", 3).shapes(3, 0, 0, 2, 2, 2, 0).parts(3, 2, 0, 0, 0).define("findByAnd", 4).parts(4, 2, 0);
        new Book(CHECK, "x").define("findByXAnd", -3).define("findByXAndOrX", -3).define("findByXAndOrderByX", -3);
    }

    private static void orCutsBeforeAndDoes() {
        CHECK.about("Terms: into alternatives; then each alternative, by itself, into parts");
        new Book(CHECK, "x", "y", "and").define("findByXOrAnd", 0).shapes(0, 0, 0, 2, 2, 2, 0).parts(0, 0, 0, 2, 0);
        // If And were cut first, these would be x and orY.
        new Book(CHECK, "x", "y", "orY").define("findByXAndOrY", -3).define("findByXAndOrOrY", -3).define("findByXOrAndY", -3)
            .declare("xAnd", 3).define("findByXAndOrY", 0).shapes(0, 0, 0, 2, 2, 2, 0).parts(0, 3, 0, 1, 0);
    }

    private static void emptyPartsAreParts() {
        CHECK.about("Terms: what is between two of them, or before or behind one, may be empty, which is a part, too");
        refuses(-3, leaves("x", "orX", "andX", "orOrX", "xOrOrX"), "findByOrX", "findByAndX", "findByXOrOrX", "findByXAndAndX",
            "findByXOrAndX", "findByOrOrX", "findByAndAndX", "findByOrAndX", "findByXAndOrX", "findByOrXOrderByX", "findByXOrAndXOrX");
        refuses(-3, leaves("x", "and", "or"), "findByOrOr", "findByAndAnd", "findByOrAnd", "findByAndOr", "findByOrAndX");
    }

    private static void emptyConditionHasNoParts() {
        CHECK.about("Terms: an empty condition has no alternatives and no parts");
        new Book(CHECK, "x").define("findBy", 0).shapes(0, 0, 0, 0, 0, 0, 0).parts(0).define("findByOrderByXDesc", 1)
            .shapes(1, 0, 0, 0, 0, 0, 1).parts(1).entity(1, 4).entity(2, (Integer) null).entity(3, 5)
            .run(0, 3).results(1, 2, 3).run(1, 3).results(3, 1, 2);
    }

    private static void keywordIsTheLongestBehindALeaf() {
        CHECK.about("Terms: the longest keyword with which the part ends and before which stands a text that names a leaf");
        String[] paths = {"x", "xIs", "xIsNot", "xIsNotNull"};
        int[] keyword = {8, 8, 7, 0};
        for (int from = 0; from < paths.length; from++) {
            String[] some = Arrays.copyOfRange(paths, from, paths.length);
            new Book(CHECK, some).define("findByXIsNotNull", 0).parts(0, 0, keyword[from]);
        }
        new Book(CHECK, "xNotNull", "xNot").define("findByXNotNull", 0).parts(0, 1, 7);
        new Book(CHECK, "xNotNull", "xNot", "x").define("findByXNotNull", 0).parts(0, 2, 8);
        new Book(CHECK, "xLess.thanEqual", "xLessThan", "x").define("findByXLessThanEqual", 0).parts(0, 2, 3);
        new Book(CHECK, "xLess.thanEqual", "xLessThan").define("findByXLessThanEqual", 0).parts(0, 0, 0)
            .define("findByXLessThanEquals", 1).parts(1, 1, 0);
        new Book(CHECK, "xIs", "x").define("findByXIs", 0).parts(0, 1, 0).define("findByXIsEquals", 1).parts(1, 0, 0);
        new Book(CHECK, "isNull", "is").define("findByIsNull", 0).parts(0, 1, 7);
        new Book(CHECK, "null", "isNull").define("findByNull", 0).parts(0, 0, 0).define("findByIsNull", 1).parts(1, 1, 0);
        new Book(CHECK, "aBNot", "a.b", "aB").define("findByABNot", 0).parts(0, 2, 1).define("findByA_BNot", 1).parts(1, 1, 1);
    }

    private static void keywordMayHaveIsBeforeIt() {
        CHECK.about("Terms: each of 1 to 10 may also have Is before it; that is one keyword, and means the same");
        String[] words = {"Not", "LessThan", "LessThanEqual", "GreaterThan", "GreaterThanEqual", "Between", "Null", "NotNull", "True",
            "False"};
        for (int i = 0; i < words.length; i++) {
            new Book(CHECK, "x").define("findByX" + words[i], 0).parts(0, 0, i + 1).define("findByXIs" + words[i], 1).parts(1, 0, i + 1);
            // One keyword: xIs is not the leaf, for Is is of the keyword.
            new Book(CHECK, "x", "xIs").define("findByXIs" + words[i], 0).parts(0, 0, i + 1)
                .define("findByXIsIs" + words[i], 1).parts(1, 1, i + 1);
        }
        new Book(CHECK, "x").define("findByX", 0).parts(0, 0, 0).define("findByXIs", 1).parts(1, 0, 0).define("findByXEquals", 2)
            .parts(2, 0, 0);
        refuses(-3, leaves("x"), "findByXIsEquals", "findByXIsIs", "findByXEqualsEquals", "findByXEqualsIs", "findByXIsIsNot");
    }

    private static void keywordIsTheWholeEnd() {
        CHECK.about("Terms: a part is a leaf's name with a keyword behind it");
        String[] ends = {"is", "Iss", "Equal", "equals", "not", "Nots", "NotNot", "NotTrue", "Less", "LessThanOrEqual", "LessThanequal",
            "LessThanEquals", "Greater", "GreaterThanEquals", "BetweenNot", "Betwee", "null", "NullNot", "NotNul", "true", "Tru", "Falses",
            "_Is", "_", "_Not", ".", ".Not", "0", "Is_Not", "Is_", "Not_Null"};
        for (String end : ends) {
            new Book(CHECK, "x").define("findByX" + end, -3);
        }
        // A keyword with no leaf before it is no part, and neither is one before a leaf.
        refuses(-3, leaves("x"), "findByIs", "findByNot", "findByEquals", "findByNull", "findByIsX", "findByNotX", "findByx", "findBy_X");
    }

    private static void keywordTakesItsArguments() {
        CHECK.about("Terms: 6 takes two arguments, 7 to 10 take none, the others one");
        String[] words = {"", "Not", "LessThan", "LessThanEqual", "GreaterThan", "GreaterThanEqual", "Between", "Null", "NotNull", "True",
            "False"};
        int[] taken = {1, 1, 1, 1, 1, 1, 2, 0, 0, 0, 0};
        for (int i = 0; i < words.length; i++) {
            Book book = new Book(CHECK, "x").define("countByX" + words[i], 0).define("countByXIs" + words[i], 1).shape(0, 4, taken[i])
                .shape(1, 4, taken[i]);
            for (int given = 0; given <= 3; given++) {
                book.args(new int[given]).run(0, given == taken[i] ? 0 : -2);
                book.args(new int[given]).run(1, given == taken[i] ? 0 : -2);
            }
        }
    }

    private static void ordersAreCutBeforeACapital() {
        CHECK.about("Terms: cut behind each Asc and each Desc that has a capital behind it (from left to right)");
        new Book(CHECK, "x", "a", "z").define("findByOrderByXAscA", 0).shape(0, 5, 2).define("findByOrderByXDescZ", 1).shape(1, 5, 2)
            .define("findByOrderByXAscZDescA", 2).shape(2, 5, 3).define("findByOrderByXDescADescZDesc", 3).shape(3, 5, 3);
        // Also where a leaf's name would go on behind it.
        new Book(CHECK, "x", "xAscY").define("findByOrderByXAscY", -4).declare("y", 2).define("findByOrderByXAscY", 0).shape(0, 5, 2);
        new Book(CHECK, "ascX", "descX", "x").define("findByOrderByAscX", -4).define("findByOrderByDescX", -4);
        new Book(CHECK, "x").define("findByOrderByXAscAsc", -4).define("findByOrderByXDescAsc", -4).define("findByOrderByXAscDescX", -4);
    }

    private static void ordersAreNotCutElsewhere() {
        CHECK.about("Terms: Asc and Desc with no capital behind them");
        for (String word : new String[] {"Asc", "Desc"}) {
            new Book(CHECK, "x", "x" + word + "a").define("findByOrderByX" + word + "a", 0).shape(0, 5, 1);
            new Book(CHECK, "x", "x" + word + "z").define("findByOrderByX" + word + "z", 0).shape(0, 5, 1);
            new Book(CHECK, "x", "x" + word + "0").define("findByOrderByX" + word + "0", 0).shape(0, 5, 1);
            new Book(CHECK, "x", "x" + word + "9").define("findByOrderByX" + word + "9", 0).shape(0, 5, 1);
            new Book(CHECK, "x", "x" + word + ".y", "y").define("findByOrderByX" + word + "_Y", 0).shape(0, 5, 1);
            new Book(CHECK, "x", "y").define("findByOrderByX" + word + "_Y", -4).define("findByOrderByX" + word + ".Y", -4);
            new Book(CHECK, "x").define("findByOrderByX" + word, 0).shape(0, 5, 1);
        }
        new Book(CHECK, "x", "y", "xascY", "xDESCY").define("findByOrderByXascY", 0).shape(0, 5, 1).define("findByOrderByXDESCY", 1)
            .shape(1, 5, 1).define("findByOrderByXY", -4);
    }

    private static void directionIsAlwaysTakenOff() {
        CHECK.about("Terms: if it ends with Asc or Desc, that is always taken off");
        new Book(CHECK, "xAsc", "xDesc").define("findByOrderByXAsc", -4).define("findByOrderByXDesc", -4);
        new Book(CHECK, "asc", "desc").define("findByOrderByAsc", -4).define("findByOrderByDesc", -4).define("findByOrderByAscAsc", -4)
            .define("findByOrderByDescDesc", -4).define("findByOrderByAscDesc", -4);
        new Book(CHECK, "x.asc", "x.desc").define("findByOrderByX_Asc", -4).define("findByOrderByX_Desc", -4)
            .define("findByOrderByXAscDesc", -4).define("findByOrderByX_AscDesc", -4);
        new Book(CHECK, "xasc", "xdesc").define("findByOrderByXasc", 0).define("findByOrderByXdesc", 1).define("findByOrderByXascDesc", 2)
            .entity(1, 1, 2).entity(2, 2, 1).run(0, 2).results(1, 2).run(1, 2).results(2, 1).run(2, 2).results(2, 1);
        new Book(CHECK, "xAsc", "x").entity(1, 1, 2).entity(2, 2, 1).define("findByOrderByXAsc", 0).run(0, 2).results(2, 1);
    }

    private static void ordersHaveNoOtherWords() {
        CHECK.about("Terms: each piece is a leaf's name, with Asc, Desc or nothing behind it");
        refuses(-4, leaves("x", "y"), "findByOrderByXIs", "findByOrderByXNot", "findByOrderByXAndY", "findByOrderByXOrY", "findByOrderByXY",
            "findByOrderByX_", "findByOrderBy_X", "findByOrderByX_Asc", "findByOrderByx", "findByOrderByX.", "findByOrderByX1",
            "findByOrderByXASC", "findByOrderByXAscending");
        // Or and And are no cuts here.
        new Book(CHECK, "x", "xOrY", "xAndY", "y").define("findByOrderByXOrY", 0).shapes(0, 0, 0, 0, 0, 0, 1)
            .define("findByOrderByXAndYDescX", 1).shapes(1, 0, 0, 0, 0, 0, 2);
        new Book(CHECK, "a.b", "aB").define("findByOrderByAB", 0).entity(1, 1, 2).entity(2, 2, 1).run(0, 2).results(2, 1)
            .define("findByOrderByA_BDesc", 1).run(1, 2).results(2, 1);
    }
}
