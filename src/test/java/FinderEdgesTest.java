/** The edges that the promises 6 to 8 name: define, shape and part. */
public final class FinderEdgesTest {
    private static final Check CHECK = new Check();
    private static final String SEVEN_PARTS = "ByXOrXAndXOrXAndXOrXAndX";
    private static final String FOUR_PIECES = "OrderByXAscXAscXAscX";

    public static void main(String[] args) {
        findersAreNumberedInTheirOrder();
        defineEmptiesTheDraft();
        refusedDefineKeepsTheDraft();
        namesAreSettledInParts();
        namesAreSettledInOrders();
        noMoreThanThreeFigures();
        limitIsNotZero();
        noEmptyPart();
        noPartWithoutLeaf();
        noPieceWithoutLeaf();
        nothingBehindOrderBy();
        noMoreThanSixParts();
        noMoreThanThreePieces();
        singleIsOnlyForFind();
        noMoreThanEightFinders();
        faultOneGoesBeforeTheOthers();
        faultTwoGoesBeforeTheOthers();
        faultThreeGoesBeforeTheOthers();
        faultFourGoesBeforeTheOthers();
        faultFiveGoesBeforeTheOthers();
        faultSixGoesBeforeTheLast();
        shapeOfTheLeastAndTheMost();
        shapeOfNoFinder();
        shapeOfNoSuchNumber();
        partsInTheOrderOfTheText();
        partOfTheLeastAndTheMost();
        partOfNoFinder();
        partOfNoSuchNumber();
        CHECK.end();
    }

    private static Book eight(String... paths) {
        Book book = new Book(CHECK, paths);
        for (int f = 0; f < 8; f++) {
            book.define("findTop" + (f + 1) + "By", f);
        }
        return book;
    }

    private static void findersAreNumberedInTheirOrder() {
        CHECK.about("6: its number, 0, 1, .. in the order in which they were made");
        new Book(CHECK, "x").define("findTop5By", 0).define("findByY", -3).define("countTop6By", 1).define("find", -1)
            .define("countBy", true, -6).define("deleteTop7By", 2).shapes(0, 0, 5).shapes(1, 1, 6).shapes(2, 3, 7);
    }

    private static void defineEmptiesTheDraft() {
        CHECK.about("6: makes a finder of the draft and makes the draft empty");
        new Book(CHECK).add("findBy").define(false, 0).define(false, -1).names(-1).declare(-1).add("a").declare(0);
        new Book(CHECK).add("findBy").define(true, 0).add("b".repeat(80)).type('b', false);
    }

    private static void refusedDefineKeepsTheDraft() {
        CHECK.about("6: when it answers less than 0 the draft stays");
        new Book(CHECK).add("findB").define(false, -1).add("y").define(false, 0).shapes(0, 0, 0, 0, 0, 0, 0);
        new Book(CHECK).add("findTop0By").define(false, -2).define(true, -2);
        new Book(CHECK, "xy").add("findByX").define(false, -3).add("y").define(false, 0).parts(0, 0, 0);
        new Book(CHECK, "xy").add("findByOrderByX").define(false, -4).add("y").define(false, 0).shape(0, 5, 1);
        new Book(CHECK, "x").add("count" + SEVEN_PARTS).define(false, -5).add("X").define(false, -3);
        new Book(CHECK).add("countBy").define(true, -6).define(false, 0).shape(0, 0, 1);
        eight("x").add("findByX").define(false, -7).add("Y").define(false, -3);
        eight("x").write("X").define(false, -1).names(0);
    }

    private static void namesAreSettledInParts() {
        CHECK.about("6: what a leaf's name says is settled now, whatever is declared later");
        new Book(CHECK, "a.bC").define("findByABC", 0).declare("aB.c", 1).define("findByABC", 1).declare("aBC", 2).define("findByABC", 2)
            .parts(0, 0, 0).parts(1, 1, 0).parts(2, 2, 0).entity(1, 5, 6, 7).entity(2, 6, 7, 5).args(5).run(0, 1).results(1)
            .args(7).run(1, 1).results(2).args(5).run(2, 1).results(2);
        // The keyword is settled, too.
        new Book(CHECK, "xNot").define("findByXNotNull", 0).declare("x", 1).define("findByXNotNull", 1).parts(0, 0, 7).parts(1, 1, 8);
        // What was refused is not made when its leaf comes.
        new Book(CHECK).define("findByX", -3).declare("x", 0).shape(0, 0, -1).define("findByX", 0);
    }

    private static void namesAreSettledInOrders() {
        CHECK.about("6: what a leaf's name says in the orders is settled now");
        new Book(CHECK, "a.bC").define("findByOrderByABC", 0).declare("aB.c", 1).define("findByOrderByABC", 1).entity(1, 1, 2)
            .entity(2, 2, 1).run(0, 2).results(1, 2).run(1, 2).results(2, 1);
    }

    private static void noMoreThanThreeFigures() {
        CHECK.about("6: -2 there are more than 3 figures");
        for (String word : new String[] {"findTop", "findFirst", "deleteTop"}) {
            new Book(CHECK).define(word + "999By", 0).shape(0, 1, 999).define(word + "001By", 1).shape(1, 1, 1);
            new Book(CHECK).define(word + "1000By", -2).define(word + "0001By", -2).define(word + "0000By", -2).define(word + "9999By", -2);
        }
        // So many that they would be a good number if an int or a long ran over.
        String[] many = {"4294967297", "18446744073709551617", "10000000000000000000000000000000000000000000000000000000000000000001"};
        for (String figures : many) {
            new Book(CHECK).define("findTop" + figures + "By", -2).define("findTop1By", 0);
        }
    }

    private static void limitIsNotZero() {
        CHECK.about("6: -2 the limit is 0");
        for (String word : new String[] {"findTop", "findFirst", "countTop"}) {
            new Book(CHECK).define(word + "0By", -2).define(word + "00By", -2).define(word + "000By", -2).define(word + "1By", 0)
                .define(word + "By", 1);
        }
    }

    private static void noEmptyPart() {
        CHECK.about("6: -3 one of the parts is empty");
        for (String rest : new String[] {"OrX", "AndX", "XOrOrX", "XAndAndX", "XOrAndX", "XOrXAndAndX", "XOrXOrOrX"}) {
            new Book(CHECK, "x", "orX", "andX").define("findBy" + rest, -3).define("findBy" + rest + "OrderByX", -3).define("findByX", 0);
        }
    }

    private static void noPartWithoutLeaf() {
        CHECK.about("6: -3 one of the parts has no leaf");
        for (String rest : new String[] {"Y", "YNot", "YOrX", "XOrY", "YAndX", "XAndY", "XAndYAndX", "XOrYOrX", "XAndXOrXAndXOrXAndY"}) {
            new Book(CHECK, "x").define("findBy" + rest, -3).define("findBy" + rest.replace('Y', 'X'), 0);
        }
    }

    private static void noPieceWithoutLeaf() {
        CHECK.about("6: -4 one of the pieces of the orders names no leaf");
        for (String orders : new String[] {"Y", "YAsc", "YDesc", "YAscX", "XAscY", "XAscYDescX", "XDescXDescY"}) {
            new Book(CHECK, "x").define("findByOrderBy" + orders, -4).define("findByXOrderBy" + orders, -4)
                .define("findByOrderBy" + orders.replace('Y', 'X'), 0);
        }
    }

    private static void nothingBehindOrderBy() {
        CHECK.about("6: -4 also when OrderBy is there and nothing behind it");
        new Book(CHECK, "x").define("findByOrderBy", -4).define("findByXOrderBy", -4).define("countTop1ByXOrderBy", -4)
            .define("findByOrderByAsc", -4).define("findByOrderByDesc", -4).define("findByOrderByXAscDesc", -4);
    }

    private static void noMoreThanSixParts() {
        CHECK.about("6: -5 there are more than 6 parts");
        String[] cuts = {"Or", "And"};
        for (String cut : cuts) {
            String six = "findByX" + (cut + "X").repeat(5);
            new Book(CHECK, "x").define(six, 0).shape(0, 3, 6).define(six + cut + "X", -5).shape(1, 3, -1);
            new Book(CHECK, "x").define(six + "OrderByX", 0).define(six + cut + "XOrderByX", -5).define(six + cut + "XNull", -5);
        }
        new Book(CHECK, "x").define("findByXAndXOrXAndXOrXAndX", 0).shapes(0, 0, 0, 3, 6, 6, 0).define("find" + SEVEN_PARTS, -5);
        new Book(CHECK, "x").define("findBy" + "XOr".repeat(24) + "X", -5).define("findByXOrXOrXOrXOrXOrXNot", 0).shape(0, 2, 6);
        new Book(CHECK, "x").define("findByX" + "AndX".repeat(18), -5).shape(0, 0, -1);
    }

    private static void noMoreThanThreePieces() {
        CHECK.about("6: -5 there are more than 3 pieces");
        new Book(CHECK, "x").define("findByOrderByXAscXDescX", 0).shape(0, 5, 3).define("findByOrderByXAscXDescXAsc", 1).shape(1, 5, 3)
            .define("findByOrderByXAscXDescXAscX", -5).define("findByXOrderByXDescXDescXDescXDesc", -5);
        new Book(CHECK, "x").define("findByOrderBy" + "XAsc".repeat(16) + "X", -5).define("findByXOrXOrXOrXOrXOrXOrderByXAscXAscX", 0)
            .shapes(0, 0, 0, 6, 6, 6, 3);
    }

    private static void singleIsOnlyForFind() {
        CHECK.about("6: -6 single is true and the subject is not find");
        for (String subject : new String[] {"count", "exists", "delete"}) {
            new Book(CHECK, "x").define(subject + "By", true, -6).define(subject + "TopByX", true, -6).define(subject + "By", false, 0);
        }
        new Book(CHECK, "x").define("findBy", true, 0).define("findTop2ByXOrderByX", true, 1).define("findBy", false, 2);
    }

    private static void noMoreThanEightFinders() {
        CHECK.about("6: -7 there are 8 finders");
        Book book = eight("x").shapes(7, 0, 8, 0, 0, 0, 0).define("countByXOrderByX", -7).define("findBy", true, -7);
        book.shape(8, 0, -1).part(8, 0, -1).run(8, -1);
        for (int f = 0; f < 8; f++) {
            book.shapes(f, 0, f + 1, 0, 0, 0, 0).part(f, 0, -1).run(f, 0);
        }
    }

    private static void faultOneGoesBeforeTheOthers() {
        CHECK.about("6: the first of these that holds, -1");
        Book book = new Book(CHECK, "x");
        book.define("findTop0b", -1).define("findTop1000", -1).define("getTop0By", -1).define("getByY", -1).define("getByOrderBy", -1);
        book.define("get" + SEVEN_PARTS, -1).define("countB", true, -1).define("", true, -1);
        eight("x").define("get", true, -1).define("getBy", -1);
    }

    private static void faultTwoGoesBeforeTheOthers() {
        CHECK.about("6: the first of these that holds, -2");
        Book book = new Book(CHECK, "x");
        book.define("findTop0ByY", -2).define("findTop1000ByOrX", -2).define("findTop0ByOrderBy", -2).define("findTop0ByOrderByY", -2);
        book.define("findTop0" + SEVEN_PARTS, -2).define("findTop0By" + FOUR_PIECES, -2).define("countTop0By", true, -2);
        eight("x").define("findTop0By", -2).define("countTop1000By", true, -2);
    }

    private static void faultThreeGoesBeforeTheOthers() {
        CHECK.about("6: the first of these that holds, -3");
        Book book = new Book(CHECK, "x");
        book.define("findByYOrderBy", -3).define("findByOrXOrderByY", -3).define("find" + SEVEN_PARTS + "AndY", -3);
        book.define("find" + SEVEN_PARTS + "OrOrX", -3).define("findByY" + FOUR_PIECES, -3).define("countByY", true, -3);
        eight("x").define("findByY", -3).define("countByOrX", true, -3);
    }

    private static void faultFourGoesBeforeTheOthers() {
        CHECK.about("6: the first of these that holds, -4");
        Book book = new Book(CHECK, "x");
        book.define("find" + SEVEN_PARTS + "OrderBy", -4).define("find" + SEVEN_PARTS + "OrderByY", -4);
        book.define("findBy" + FOUR_PIECES + "AscY", -4).define("findByOrderByXAscXAscXAscY", -4).define("countByOrderBy", true, -4);
        eight("x").define("findByOrderBy", -4).define("countByXOrderByY", true, -4);
    }

    private static void faultFiveGoesBeforeTheOthers() {
        CHECK.about("6: the first of these that holds, -5");
        Book book = new Book(CHECK, "x");
        book.define("count" + SEVEN_PARTS, true, -5).define("deleteBy" + FOUR_PIECES, true, -5);
        book.define("find" + SEVEN_PARTS + FOUR_PIECES, -5);
        eight("x").define("find" + SEVEN_PARTS, -5).define("countBy" + FOUR_PIECES, true, -5);
    }

    private static void faultSixGoesBeforeTheLast() {
        CHECK.about("6: the first of these that holds, -6");
        eight("x").define("countBy", true, -6).define("existsByX", true, -6).define("deleteBy", true, -6).define("deleteBy", false, -7)
            .define("findBy", true, -7);
    }

    private static void shapeOfTheLeastAndTheMost() {
        CHECK.about("7: shape, the least and the most");
        new Book(CHECK, "x").define("findBy", 0).shapes(0, 0, 0, 0, 0, 0, 0)
            .define("deleteTop999ByXBetweenOrXBetweenOrXBetweenOrXBetweenOrXBetweenOrXBetween", 1).shapes(1, 3, 999, 6, 6, 12, 0)
            .define("findFirstByXAndXAndXAndXAndXAndXOrderByXAscXAscX", 2).shapes(2, 0, 1, 1, 6, 6, 3)
            .define("existsByXNullAndXTrueOrXFalse", 3).shapes(3, 2, 0, 2, 3, 0, 0);
    }

    private static void shapeOfNoFinder() {
        CHECK.about("7: -1 when there is no such finder");
        Book book = new Book(CHECK).shape(0, 0, -1).define("findBy", 0).define("countBy", 1).shape(1, 0, 1);
        for (int f : new int[] {-1, 2, 7, 8, 9, 65536, Integer.MIN_VALUE, Integer.MAX_VALUE}) {
            book.shapes(f, -1, -1, -1, -1, -1, -1).shape(f, 6, -1);
        }
    }

    private static void shapeOfNoSuchNumber() {
        CHECK.about("7: -1 when which is not 0 .. 5");
        Book book = new Book(CHECK, "x").define("deleteTop9ByXOrderByX", 0).shapes(0, 3, 9, 1, 1, 1, 1);
        for (int which : new int[] {-1, 6, 7, 65536, Integer.MIN_VALUE, Integer.MAX_VALUE}) {
            book.shape(0, which, -1);
        }
    }

    private static void partsInTheOrderOfTheText() {
        CHECK.about("8: part k (from 0 on, in the order of the text)");
        new Book(CHECK, "x", "y").define("findByYNotAndXTrueOrXAndYFalseOrYNullAndXBetween", 0)
            .parts(0, 1, 1, 0, 9, 0, 0, 1, 10, 1, 7, 0, 6);
    }

    private static void partOfTheLeastAndTheMost() {
        CHECK.about("8: 16 times its leaf and the number of its keyword");
        new Book(CHECK, "a", "b", "c", "d", "e", "f", "g", "h").define("findByAOrAFalseOrHOrHFalse", 0).part(0, 0, 0).part(0, 1, 10)
            .part(0, 2, 112).part(0, 3, 122).part(0, 4, -1);
    }

    private static void partOfNoFinder() {
        CHECK.about("8: -1 when there is none, of the finder");
        Book book = new Book(CHECK, "x").part(0, 0, -1).define("findByX", 0).define("findByXNot", 1).part(1, 0, 1);
        for (int f : new int[] {-1, 2, 7, 8, 9, 65536, Integer.MIN_VALUE, Integer.MAX_VALUE}) {
            book.part(f, 0, -1).part(f, -1, -1);
        }
    }

    private static void partOfNoSuchNumber() {
        CHECK.about("8: -1 when there is none, of the part");
        Book book = new Book(CHECK, "x").define("findByXOrXOrXOrXOrXOrX", 0).define("findByX", 1).define("findByOrderByX", 2);
        book.part(0, 5, 0).part(0, 6, -1).part(1, 0, 0).part(1, 1, -1).part(2, 0, -1);
        for (int k : new int[] {-1, 6, 7, 65536, Integer.MIN_VALUE, Integer.MAX_VALUE}) {
            book.part(0, k, -1).part(1, k, -1).part(2, k, -1);
        }
        // A row that a longer, refused text was read into shows nothing of it.
        new Book(CHECK, "x").define("find" + SEVEN_PARTS, -5).define("findByX", 0).parts(0, 0, 0).shapes(0, 0, 0, 1, 1, 1, 0);
        new Book(CHECK, "x").define("countTop5ByXOrXOrderByY", -4).define("findBy", 0).parts(0).shapes(0, 0, 0, 0, 0, 0, 0);
    }
}
