/** The opening of the document: the finder that it names, and when a wrong name is refused. */
public final class OpeningTest {
    private static final Check CHECK = new Check();
    private static final String NAME = "findTop2ByAddressZipCodeLessThanAndAgeOrderByAgeDesc";

    public static void main(String[] args) {
        theNameOfTheOpening();
        itsRun();
        wrongNamesAreRefusedWhenTheFinderIsMade();
        whatIsMadeIsNeverWrongLater();
        CHECK.end();
    }

    private static FinderBook book() {
        FinderBook book = CHECK.bookOf("age", "address.zipCode", "address.city");
        CHECK.define(book, NAME, 0);
        return book;
    }

    private static void theNameOfTheOpening() {
        CHECK.about("the opening, its finder");
        FinderBook book = book();
        CHECK.shape(book, 0, 0, 2, 1, 2, 2, 1, -1);
        CHECK.parts(book, 0, 1, 2, 0, 0);
        // The same text names another leaf where one with a longer first name is spelled so, too.
        FinderBook other = CHECK.bookOf("age", "address.zipCode", "addressZip.code");
        CHECK.define(other, NAME, 0);
        CHECK.parts(other, 0, 2, 2, 0, 0);
    }

    private static void itsRun() {
        CHECK.about("the opening, a run of its finder");
        FinderBook book = book();
        CHECK.save(book, 1, 30, 500);
        CHECK.save(book, 2, 31, 400);
        CHECK.save(book, 3, 30, 600);
        CHECK.save(book, 4, 30, null);
        CHECK.save(book, 5, 30, 599);
        CHECK.save(book, 6, 30, 100);
        CHECK.run(book, 0, Check.with(600, 30), 2);
        CHECK.results(book, 1, 5);
        CHECK.run(book, 0, Check.with(30, 600), 0);
        CHECK.results(book);
    }

    private static void wrongNamesAreRefusedWhenTheFinderIsMade() {
        CHECK.about("the opening, wrong names");
        String[] paths = {"age", "address.zipCode", "address.city"};
        String[][] changes = {{"find", "seek"}, {"Top2By", "Top2"}, {"Top2", "2"}, {"Top2", "Top0"}, {"Top2", "Top2000"},
            {"Address", "Adress"}, {"ZipCode", "Zipcode"}, {"LessThan", "Less"}, {"AndAge", "AndName"}, {"And", "AndAnd"},
            {"ByAgeDesc", "ByNameDesc"}, {"ByAgeDesc", "By"}, {"ByAgeDesc", "ByAgeDown"}};
        int[] want = {-1, -1, -1, -2, -2, -3, -3, -3, -3, -3, -4, -4, -4};
        for (int i = 0; i < changes.length; i++) {
            FinderBook book = CHECK.bookOf(paths);
            CHECK.define(book, NAME.replace(changes[i][0], changes[i][1]), want[i]);
            CHECK.due("run(0), for it is not there", book.run(0), -1);
        }
    }

    private static void whatIsMadeIsNeverWrongLater() {
        CHECK.about("the opening, not when it is used");
        FinderBook book = book();
        for (String path : new String[] {"a", "b", "c", "d", "addressZip.code"}) {
            CHECK.write(book, path);
            CHECK.due("declare() of " + path, book.declare() > 2, true);
            CHECK.run(book, 0, Check.with(600, 30), 0);
        }
        CHECK.save(book, 1, 30, 500);
        CHECK.run(book, 0, Check.with(600, 30), 1);
        CHECK.parts(book, 0, 1, 2, 0, 0);
    }
}
