/** The edges that "Terms" names of keywords, of what fits and of a run, and the promises 13 to 16. */
public final class RunEdgesTest {
    private static final Check CHECK = new Check();
    private static final int MIN = Integer.MIN_VALUE;
    private static final int MAX = Integer.MAX_VALUE;
    // Ids 1 to 7 have these values and id 8 has null.
    private static final Integer[] VALUES = {MIN, -1, 0, 1, 4, 5, MAX, null};
    private static final String TWELVE = "ByXBetweenOrXBetweenOrXBetweenOrXBetweenOrXBetweenOrXBetween";

    public static void main(String[] args) {
        equalHolds();
        notHolds();
        lessThanHolds();
        lessThanEqualHolds();
        greaterThanHolds();
        greaterThanEqualHolds();
        betweenHolds();
        nullHolds();
        notNullHolds();
        trueHolds();
        falseHolds();
        onlyNullHoldsForNull();
        allPartsOfOneAlternativeHold();
        everythingFitsWithoutAlternatives();
        argumentsAreTakenInTheOrderOfTheText();
        withoutOrdersAsTheyStand();
        nullIsLessThanEveryInt();
        laterOrdersPartEquals();
        equalsAreAsTheyStand();
        limitTakesTheFirst();
        limitIsNoLessThanWhatFits();
        argTakesTheTwelfth();
        argRefusesTheThirteenth();
        argTakesEveryInt();
        runOfNoSuchFinder();
        runOfTooFewArguments();
        runOfTooManyArguments();
        refusedArgumentsAreUsedUp();
        runUsesItsArgumentsUp();
        findOfNone();
        findOfAll();
        singleOfNone();
        singleOfOne();
        singleOfTwo();
        singleWithALimit();
        countOfNoneAndAll();
        existsOfNoneAndAny();
        deleteOfNoneAndAll();
        deleteWithALimit();
        otherSubjectsLeaveNoResults();
        resultsBeforeTheFirstRun();
        resultsAfterRefusedRuns();
        resultsAfterASingleOfTwo();
        resultsStayUntilTheNextRun();
        resultOfNoSuchNumber();
        resultOfARemovedEntity();
        CHECK.end();
    }

    private static Book book() {
        Book book = new Book(CHECK, "w", "x");
        for (int i = 0; i < VALUES.length; i++) {
            book.entity(i + 1, 4, VALUES[i]);
        }
        return book;
    }

    private static void holds(String keyword, int[] arguments, int... ids) {
        for (String is : new String[] {"", "Is"}) {
            book().define("findByX" + is + keyword, 0).args(arguments).run(0, ids.length).results(ids);
        }
    }

    private static int[] with(int... arguments) {
        return arguments;
    }

    private static Book ten(String... texts) {
        Book book = new Book(CHECK, "x");
        for (int f = 0; f < texts.length; f++) {
            book.define(texts[f], f);
        }
        for (int id = 1; id <= 10; id++) {
            book.entity(id, id * 7 % 11);
        }
        return book;
    }

    private static void equalHolds() {
        CHECK.about("Terms: (nothing), Is, Equals: v = a");
        holds("", with(4), 5);
        holds("", with(3));
        holds("", with(0), 3);
        holds("", with(MIN), 1);
        holds("", with(MAX), 7);
        book().define("findByXEquals", 0).args(4).run(0, 1).results(5).args(3).run(0, 0).results();
    }

    private static void notHolds() {
        CHECK.about("Terms: Not: v is not a");
        holds("Not", with(4), 1, 2, 3, 4, 6, 7);
        holds("Not", with(3), 1, 2, 3, 4, 5, 6, 7);
        holds("Not", with(MIN), 2, 3, 4, 5, 6, 7);
        holds("Not", with(MAX), 1, 2, 3, 4, 5, 6);
    }

    private static void lessThanHolds() {
        CHECK.about("Terms: LessThan: v < a");
        holds("LessThan", with(4), 1, 2, 3, 4);
        holds("LessThan", with(5), 1, 2, 3, 4, 5);
        holds("LessThan", with(MIN));
        holds("LessThan", with(MIN + 1), 1);
        holds("LessThan", with(MAX), 1, 2, 3, 4, 5, 6);
    }

    private static void lessThanEqualHolds() {
        CHECK.about("Terms: LessThanEqual: v <= a");
        holds("LessThanEqual", with(3), 1, 2, 3, 4);
        holds("LessThanEqual", with(4), 1, 2, 3, 4, 5);
        holds("LessThanEqual", with(MIN), 1);
        holds("LessThanEqual", with(MAX - 1), 1, 2, 3, 4, 5, 6);
        holds("LessThanEqual", with(MAX), 1, 2, 3, 4, 5, 6, 7);
    }

    private static void greaterThanHolds() {
        CHECK.about("Terms: GreaterThan: v > a");
        holds("GreaterThan", with(4), 6, 7);
        holds("GreaterThan", with(3), 5, 6, 7);
        holds("GreaterThan", with(MAX));
        holds("GreaterThan", with(MAX - 1), 7);
        holds("GreaterThan", with(MIN), 2, 3, 4, 5, 6, 7);
    }

    private static void greaterThanEqualHolds() {
        CHECK.about("Terms: GreaterThanEqual: v >= a");
        holds("GreaterThanEqual", with(4), 5, 6, 7);
        holds("GreaterThanEqual", with(5), 6, 7);
        holds("GreaterThanEqual", with(MAX), 7);
        holds("GreaterThanEqual", with(MIN), 1, 2, 3, 4, 5, 6, 7);
        holds("GreaterThanEqual", with(MIN + 1), 2, 3, 4, 5, 6, 7);
    }

    private static void betweenHolds() {
        CHECK.about("Terms: Between: a <= v and v <= b");
        holds("Between", with(0, 4), 3, 4, 5);
        holds("Between", with(1, 3), 4);
        holds("Between", with(4, 4), 5);
        holds("Between", with(4, 0));
        holds("Between", with(MAX, MIN));
        holds("Between", with(MIN, MIN), 1);
        holds("Between", with(MAX, MAX), 7);
        holds("Between", with(MIN, MAX), 1, 2, 3, 4, 5, 6, 7);
        holds("Between", with(MIN + 1, MAX - 1), 2, 3, 4, 5, 6);
    }

    private static void nullHolds() {
        CHECK.about("Terms: Null: v is null");
        holds("Null", with(), 8);
    }

    private static void notNullHolds() {
        CHECK.about("Terms: NotNull: v is not null");
        holds("NotNull", with(), 1, 2, 3, 4, 5, 6, 7);
    }

    private static void trueHolds() {
        CHECK.about("Terms: True: v is not 0");
        holds("True", with(), 1, 2, 4, 5, 6, 7);
    }

    private static void falseHolds() {
        CHECK.about("Terms: False: v = 0");
        holds("False", with(), 3);
    }

    private static void onlyNullHoldsForNull() {
        CHECK.about("Terms: when v is null, only 7 holds");
        String[] words = {"", "Not", "LessThan", "LessThanEqual", "GreaterThan", "GreaterThanEqual", "Between", "Null", "NotNull", "True",
            "False"};
        for (int keyword = 0; keyword < words.length; keyword++) {
            for (int a : new int[] {0, 1, MIN, MAX, (int) FinderBook.NULL}) {
                Book book = new Book(CHECK, "x").entity(1, (Integer) null).define("countByX" + words[keyword], 0);
                book.args(keyword == 6 ? with(MIN, a) : keyword > 6 ? with() : with(a)).run(0, keyword == 7 ? 1 : 0);
            }
        }
        // An int that looks like null when it is cut off is a value.
        new Book(CHECK, "x").entity(1, (int) FinderBook.NULL).define("countByXNull", 0).run(0, 0).define("countByXNotNull", 1).run(1, 1);
    }

    private static void allPartsOfOneAlternativeHold() {
        CHECK.about("Terms: an entity fits when all parts of at least one alternative hold");
        Book book = new Book(CHECK, "x", "y").entity(1, 1, 1).entity(2, 1, 2).entity(3, 2, 1).entity(4, 2, 2);
        book.define("findByXAndY", 0).args(1, 1).run(0, 1).results(1).args(2, 3).run(0, 0).results();
        book.define("findByXOrY", 1).args(1, 1).run(1, 3).results(1, 2, 3).args(3, 3).run(1, 0).results();
        book.define("findByXAndYOrXAndY", 2).args(1, 1, 2, 2).run(2, 2).results(1, 4).args(1, 3, 3, 1).run(2, 0).results();
        // The first, the one between, and the last alternative alone, each with a part that fails beside it.
        book.define("findByXAndYOrXAndYOrXAndY", 3).args(1, 2, 2, 9, 9, 1).run(3, 1).results(2);
        book.args(1, 9, 2, 1, 9, 1).run(3, 1).results(3).args(1, 9, 9, 1, 2, 2).run(3, 1).results(4).args(1, 9, 9, 1, 2, 9).run(3, 0);
    }

    private static void everythingFitsWithoutAlternatives() {
        CHECK.about("Terms: or there are no alternatives");
        book().define("findBy", 0).run(0, 8).results(1, 2, 3, 4, 5, 6, 7, 8);
        new Book(CHECK).save(5, true).define("existsBy", 0).run(0, 1).remove(5, true).run(0, 0);
    }

    private static void argumentsAreTakenInTheOrderOfTheText() {
        CHECK.about("Terms: the parts take the finder's arguments in the order of the text");
        Book book = new Book(CHECK, "x", "y").entity(1, 1, 5).entity(2, 5, 1).entity(3, 3, 3);
        book.define("findByYAndX", 0).args(1, 5).run(0, 1).results(2);
        book.define("findByXBetweenAndYNullOrXTrueAndYNotNullAndY", 1).shape(1, 4, 3).args(9, 9, 5).run(1, 1).results(1);
        book.define("findByXNullOrYBetweenOrX", 2).args(3, 4, 1).run(2, 2).results(1, 3);
        // What an alternative that holds or fails at once does not look at is taken, too.
        book.define("findByXAndYBetweenOrXBetweenAndY", 3).args(9, 1, 2, 2, 4, 3).run(3, 1).results(3).args(1, 5, 5, 5, 5, 1).run(3, 2)
            .results(1, 2);
    }

    private static void withoutOrdersAsTheyStand() {
        CHECK.about("Terms: those equal in all in the order in which they stand, without orders");
        new Book(CHECK, "x").define("findBy", 0).entity(9, 1).entity(3, 3).entity(7, 2).entity(1, 0).run(0, 4).results(9, 3, 7, 1);
    }

    private static void nullIsLessThanEveryInt() {
        CHECK.about("Terms: null is less than every int");
        Book book = new Book(CHECK, "x").entity(1, MAX).entity(2, MIN).entity(3, (Integer) null).entity(4, 0).entity(5, (Integer) null);
        book.define("findByOrderByX", 0).run(0, 5).results(3, 5, 2, 4, 1).define("findByOrderByXAsc", 1).run(1, 5).results(3, 5, 2, 4, 1);
        book.define("findByOrderByXDesc", 2).run(2, 5).results(1, 4, 2, 3, 5);
    }

    private static void laterOrdersPartEquals() {
        CHECK.about("Terms: those that are equal there in that of the second, and so on");
        Book book = new Book(CHECK, "x", "y", "z").entity(1, 1, 2, 3).entity(2, 1, 2, 1).entity(3, 1, 1, 9).entity(4, 0, 9, 9)
            .entity(5, 1, null, null).entity(6, 1, null, 0);
        book.define("findByOrderByXAscYAscZ", 0).run(0, 6).results(4, 5, 6, 3, 2, 1);
        book.define("findByOrderByXDescYDescZDesc", 1).run(1, 6).results(1, 2, 3, 6, 5, 4);
        book.define("findByOrderByXAscYDescZ", 2).run(2, 6).results(4, 2, 1, 3, 5, 6);
        book.define("findByOrderByXDescY", 3).run(3, 6).results(5, 6, 3, 1, 2, 4);
        // An order that is told twice parts none that the first left.
        book.define("findByOrderByXAscXDesc", 4).run(4, 6).results(4, 1, 2, 3, 5, 6);
    }

    private static void equalsAreAsTheyStand() {
        CHECK.about("Terms: descending turns the order of values round, but not that of entities that are equal");
        Book book = new Book(CHECK, "x").entity(5, 1).entity(2, 2).entity(9, 1).entity(1, 2).entity(7, 1);
        book.define("findByOrderByXDesc", 0).run(0, 5).results(2, 1, 5, 9, 7).define("findByOrderByX", 1).run(1, 5).results(5, 9, 7, 2, 1);
        book.remove(5, true).entity(5, 1).run(0, 5).results(2, 1, 9, 7, 5).run(1, 5).results(9, 7, 5, 2, 1);
        book.define("findTop3ByOrderByXDesc", 2).run(2, 3).results(2, 1, 9);
    }

    private static void limitTakesTheFirst() {
        CHECK.about("Terms: with a limit, only so many of the first are taken");
        ten("findTopBy", "findTop9By", "findTop3ByOrderByX", "findFirst2ByXGreaterThanOrderByXDesc").run(0, 1).results(1)
            .run(1, 9).results(1, 2, 3, 4, 5, 6, 7, 8, 9).run(2, 3).results(8, 5, 2).args(7).run(3, 2).results(3, 6);
    }

    private static void limitIsNoLessThanWhatFits() {
        CHECK.about("Terms: a limit of as many as fit, or of more");
        ten("findTop10By", "findTop11By", "findTop999By", "findTop3ByXLessThan").run(0, 10).run(1, 10).run(2, 10)
            .results(1, 2, 3, 4, 5, 6, 7, 8, 9, 10).args(4).run(3, 3).results(2, 5, 8).args(3).run(3, 2).results(5, 8).args(1).run(3, 0)
            .results();
    }

    private static Book twelve() {
        return new Book(CHECK, "x").define("find" + TWELVE, 0).define("findBy", 1).entity(11, 11).entity(12, 12).entity(13, 13)
            .args(1, 2, 3, 4, 5, 6, 7, 8, 9, 10, 12);
    }

    private static void argTakesTheTwelfth() {
        CHECK.about("13: appends an argument for the next run, the twelfth");
        twelve().arg(12, true).run(0, 1).results(12);
        twelve().arg(13, true).run(0, 2).results(12, 13);
        twelve().run(0, -2);
    }

    private static void argRefusesTheThirteenth() {
        CHECK.about("13: false when 12 are there");
        twelve().arg(12, true).arg(13, false).arg(14, false).run(0, 1).results(12);
        twelve().arg(12, true).arg(13, false).run(1, -2).run(1, 3).arg(5, true);
        twelve().arg(12, true).arg(13, false).run(0, 1).args(1, 2, 3, 4, 5, 6, 7, 8, 9, 10, 11, 13).arg(1, false).run(0, 3)
            .results(11, 12, 13);
    }

    private static void argTakesEveryInt() {
        CHECK.about("13: an argument is any int");
        Book book = new Book(CHECK, "x").define("findByX", 0);
        int[] values = {0, -1, MIN, MAX, (int) FinderBook.NULL};
        for (int i = 0; i < values.length; i++) {
            book.entity(i + 1, values[i]);
        }
        for (int i = 0; i < values.length; i++) {
            book.args(values[i]).run(0, 1).results(i + 1);
        }
    }

    private static void runOfNoSuchFinder() {
        CHECK.about("14: -1 when there is no such finder (they stay then)");
        new Book(CHECK).run(0, -1).run(-1, -1);
        for (int f : new int[] {-1, 2, 3, 7, 8, 9, 65536, MIN, MAX}) {
            new Book(CHECK, "x").define("findByX", 0).define("deleteByX", 1).entity(1, 5).entity(2, 6).args(5).run(0, 1).args(6).run(f, -1)
                .results(1).size(2).run(0, 1).results(2);
        }
        // So many that no more are taken.
        twelve().arg(12, true).run(2, -1).arg(1, false).run(0, 1).results(12);
    }

    private static void runOfTooFewArguments() {
        CHECK.about("14: -2 when the arguments are not as many as it takes, but fewer");
        new Book(CHECK, "x").define("findByX", 0).run(0, -2).define("findByXBetween", 1).run(1, -2).args(1).run(1, -2);
        twelve().run(0, -2);
        new Book(CHECK, "x").define("countByXNullOrX", 0).run(0, -2).args(1).run(0, 0);
    }

    private static void runOfTooManyArguments() {
        CHECK.about("14: -2 when the arguments are not as many as it takes, but more");
        new Book(CHECK, "x").define("findByX", 0).args(1, 2).run(0, -2).define("findBy", 1).args(1).run(1, -2).run(1, 0);
        new Book(CHECK, "x").define("findByXNull", 0).args(1).run(0, -2).run(0, 0).define("findByXBetween", 1).args(1, 2, 3).run(1, -2);
        twelve().arg(12, true).run(1, -2);
    }

    private static Book asked(int... arguments) {
        return new Book(CHECK, "x").define("findByX", 0).define("deleteByX", 1).define("countByX", 2).define("findByX", true, 3)
            .entity(1, 5).entity(2, 6).fill(0, 7, true).args(5).run(0, 1).add("Xy").args(arguments);
    }

    private static void refusedArgumentsAreUsedUp() {
        CHECK.about("14: -2, then they are used up, too, and nothing else changes");
        for (int f = 0; f < 4; f++) {
            asked(5, 6).run(f, -2).alike("run(" + f + ") with two arguments", asked());
            asked().run(f, -2).alike("run(" + f + ") with no argument", asked());
            asked(5, 6).run(f, -2).results(1).size(2).args(6).run(0, 1).results(2);
        }
    }

    private static void runUsesItsArgumentsUp() {
        CHECK.about("14: the arguments that were appended, which are used up");
        for (int f = 0; f < 4; f++) {
            asked(9).run(f, 0).run(f, -2);
        }
        asked(9).run(0, 0).args(1, 2, 3, 4, 5, 6, 7, 8, 9, 10, 11, 12).arg(13, false);
        asked(5).run(3, 1).args(6).run(3, 1).results(2);
        new Book(CHECK, "x").entity(1, 5).entity(2, 5).define("findByX", true, 0).args(5).run(0, -3).run(0, -2).args(9).run(0, 0);
    }

    private static void findOfNone() {
        CHECK.about("14: find, of none");
        new Book(CHECK, "x").define("findByX", 0).args(5).run(0, 0).results().entity(1, 5).args(5).run(0, 1).results(1).args(6).run(0, 0)
            .results();
    }

    private static void findOfAll() {
        CHECK.about("14: find: the results become the ids of the finding, in order; answers how many");
        ten("findBy", "findByOrderByX").run(0, 10).results(1, 2, 3, 4, 5, 6, 7, 8, 9, 10).run(1, 10)
            .results(8, 5, 2, 10, 7, 4, 1, 9, 6, 3).size(10);
    }

    private static Book singles() {
        return new Book(CHECK, "x").entity(1, 5).entity(2, 6).entity(3, 6).entity(4, 7).entity(5, 7).entity(6, 7)
            .define("findByX", true, 0).define("findByX", false, 1).args(7).run(1, 3);
    }

    private static void singleOfNone() {
        CHECK.about("14: single, and there are none");
        singles().args(8).run(0, 0).results();
    }

    private static void singleOfOne() {
        CHECK.about("14: single, and there is one");
        singles().args(5).run(0, 1).results(1);
    }

    private static void singleOfTwo() {
        CHECK.about("14: single and there are two or more: the results become none and it answers -3");
        singles().args(6).run(0, -3).results().size(6).value(2, 0, 6).args(6).run(1, 2).results(2, 3);
        singles().args(7).run(0, -3).results().size(6);
        ten().define("findBy", true, 0).run(0, -3).results().size(10);
    }

    private static void singleWithALimit() {
        CHECK.about("14: single, of the finding, which has no more than the limit");
        singles().define("findTopByX", true, 2).args(7).run(2, 1).results(4).define("findTop2ByX", true, 3).args(7).run(3, -3).results()
            .args(5).run(3, 1).results(1).define("findFirst1ByOrderByXDesc", true, 4).run(4, 1).results(4);
    }

    private static void countOfNoneAndAll() {
        CHECK.about("14: count: how many the finding has");
        ten("countBy", "countByX", "countTop3By", "countTop10By", "countByXLessThanOrderByX").run(0, 10).args(11).run(1, 0).args(3)
            .run(1, 1).run(2, 3).run(3, 10).args(4).run(4, 3).size(10);
        new Book(CHECK).define("countBy", 0).run(0, 0);
    }

    private static void existsOfNoneAndAny() {
        CHECK.about("14: exists: 1 when it has any, else 0");
        ten("existsBy", "existsByX", "existsTop5By").run(0, 1).args(11).run(1, 0).args(3).run(1, 1).run(2, 1).size(10);
        new Book(CHECK).define("existsBy", 0).run(0, 0).save(1, true).run(0, 1).save(2, true).run(0, 1);
    }

    private static void deleteOfNoneAndAll() {
        CHECK.about("14: delete: removes all of the finding and answers how many");
        ten("deleteByX", "deleteByXGreaterThan", "deleteBy").args(11).run(0, 0).size(10).args(3).run(0, 1).size(9)
            .value(2, 0, FinderBook.NONE).remove(2, false).args(5).run(1, 5).size(4).run(2, 4).size(0).run(2, 0).size(0);
        ten("findBy", "deleteByXBetweenOrderByXDesc").args(4, 8).run(1, 5).run(0, 5).results(2, 3, 5, 6, 8);
        ten("deleteBy").run(0, 10).size(0).save(5, true).size(1);
    }

    private static void deleteWithALimit() {
        CHECK.about("14: delete, of the finding alone when there is a limit");
        ten("findBy", "deleteTop3ByOrderByX", "deleteFirstBy").run(1, 3).size(7).run(0, 7).results(1, 3, 4, 6, 7, 9, 10).run(2, 1)
            .run(0, 6).results(3, 4, 6, 7, 9, 10);
    }

    private static void otherSubjectsLeaveNoResults() {
        CHECK.about("14: with count, exists and delete the results become none");
        for (String subject : new String[] {"count", "exists", "delete"}) {
            ten("findBy", subject + "ByX", subject + "By").run(0, 10).args(11).run(1, 0).results().run(0, 10).args(3).run(1, 1).results();
            ten("findBy", subject + "By").run(0, 10).run(1, subject.equals("exists") ? 1 : 10).results();
        }
    }

    private static void resultsBeforeTheFirstRun() {
        CHECK.about("15: 0 before that");
        new Book(CHECK).results();
        new Book(CHECK).run(0, -1).results();
        new Book(CHECK, "x").define("findByX", 0).entity(1, 5).results().run(0, -2).results().run(1, -1).results();
    }

    private static void resultsAfterRefusedRuns() {
        CHECK.about("15: how many results the latest run left that answered neither -1 nor -2");
        asked().results(1).run(4, -1).results(1).run(0, -2).results(1).args(1, 2).run(1, -2).results(1).args(9).run(0, 0).results()
            .run(4, -1).results().run(0, -2).results().args(6).run(0, 1).run(2, -2).results(2);
    }

    private static void resultsAfterASingleOfTwo() {
        CHECK.about("15: a run that answered -3 is the latest, too");
        singles().results(4, 5, 6).args(6).run(0, -3).results().run(5, -1).results().run(0, -2).results();
    }

    private static void resultsStayUntilTheNextRun() {
        CHECK.about("15: what the latest run left stays, whatever else is done");
        Book book = new Book(CHECK, "x").define("findByX", 0).entity(1, 5).entity(2, 6).entity(3, 5).args(5).run(0, 2).results(1, 3);
        book.entity(1, 6).results(1, 3).entity(4, 5).results(1, 3).declare("y", 1).define("countBy", 1).results(1, 3).args(5)
            .results(1, 3).scrap().results(1, 3).run(0, 2).results(3, 4);
    }

    private static void resultOfNoSuchNumber() {
        CHECK.about("16: 0 when there is none");
        new Book(CHECK).result(0, 0).result(-1, 0);
        Book book = ten("findBy", "findTop2ByOrderByX").run(0, 10).result(9, 10).result(10, 0);
        for (int k : new int[] {-1, 10, 11, 65536, MIN, MAX}) {
            book.result(k, 0);
        }
        // What a longer finding left is gone.
        book.run(1, 2).result(0, 8).result(1, 5).result(2, 0).result(9, 0);
    }

    private static void resultOfARemovedEntity() {
        CHECK.about("16: an id, also of an entity that was removed since");
        ten("findBy", "deleteBy").run(0, 10).remove(1, true).remove(10, true).remove(5, true).results(1, 2, 3, 4, 5, 6, 7, 8, 9, 10)
            .entity(99, 1).results(1, 2, 3, 4, 5, 6, 7, 8, 9, 10).run(0, 8).results(2, 3, 4, 6, 7, 8, 9, 99);
    }
}
