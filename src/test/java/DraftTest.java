/** Promises 1 to 3: a new object, type and scrap. */
public final class DraftTest {
    private static final Check CHECK = new Check();

    public static void main(String[] args) {
        newObject();
        typeTakesItsCharacters();
        typeStopsAtEighty();
        scrapEmpties();
        CHECK.end();
    }

    private static void newObject() {
        CHECK.about("1 a new object");
        FinderBook book = new FinderBook();
        CHECK.due("size()", book.size(), 0);
        CHECK.results(book);
        CHECK.due("names()", book.names(), -1);
        CHECK.due("declare()", book.declare(), -1);
        CHECK.due("define(false)", book.define(false), -1);
        CHECK.due("shape(0, 0)", book.shape(0, 0), -1);
        CHECK.due("part(0, 0)", book.part(0, 0), -1);
        CHECK.due("run(0)", book.run(0), -1);
        CHECK.due("fill(0, 1)", book.fill(0, 1), false);
        CHECK.due("blank(0)", book.blank(0), false);
        CHECK.due("remove(1)", book.remove(1), false);
        CHECK.due("value(1, 0)", book.value(1, 0), FinderBook.NONE);
        CHECK.define(book, "countBy", 0);
        CHECK.run(book, 0, Check.with(), 0);
    }

    private static void typeTakesItsCharacters() {
        CHECK.about("2 type");
        for (int c = 0; c <= 0xFFFF; c++) {
            boolean allowed = c < 128 && (Character.isLetterOrDigit(c) || c == '_' || c == '.');
            CHECK.due("type((char) " + c + ")", new FinderBook().type((char) c), allowed);
        }
        FinderBook book = new FinderBook();
        for (char c : "a-g e\u0000\u00e9".toCharArray()) {
            book.type(c);
        }
        CHECK.due("declare() of age, what is refused left out", book.declare(), 0);
        CHECK.names(book, "Age", 0);
    }

    private static void typeStopsAtEighty() {
        CHECK.about("2 type, 80 characters");
        FinderBook book = CHECK.bookOf("abcdefghijkl.abcdefghijkl", "bc.defghijklmn");
        String path = "Abcdefghijkl_Abcdefghijkl";
        String text = "findBy" + path + "And" + path + "OrderBy" + "Bc_Defghijklmn";
        CHECK.due("length of the text", text.length(), 80);
        CHECK.write(book, text);
        CHECK.due("type('x'), the 81st", book.type('x'), false);
        CHECK.due("define(false) of 80 characters", book.define(false), 0);
        CHECK.shape(book, 0, 0, 0, 1, 2, 2, 1);
        CHECK.write(book, "a".repeat(80));
        CHECK.due("type('a'), the 81st", book.type('a'), false);
        CHECK.due("type('-'), the 81st", book.type('-'), false);
        CHECK.due("type('.'), the 81st", book.type('.'), false);
        book.scrap();
        CHECK.due("type('a') after scrap", book.type('a'), true);
        CHECK.due("declare()", book.declare(), 2);
    }

    private static void scrapEmpties() {
        CHECK.about("3 scrap");
        FinderBook book = CHECK.bookOf("age");
        CHECK.write(book, "findBy");
        book.scrap();
        CHECK.due("define(false) of nothing", book.define(false), -1);
        book.scrap();
        book.type('b');
        CHECK.due("declare() of b", book.declare(), 1);
        CHECK.names(book, "Age", 0);
        CHECK.names(book, "B", 1);
        CHECK.due("names() again, for the draft stays", book.names(), 1);
    }
}
