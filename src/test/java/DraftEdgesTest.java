/** The edges that "Terms" names of the draft, and the promises 1 to 3. */
public final class DraftEdgesTest {
    private static final Check CHECK = new Check();
    // The last word is a leaf's name only if no character of it is lost and none is added.
    private static final String LAST_WORD = "Bc_Defghijklmn";
    private static final String EIGHTY = "findByAbcdefghijkl_AbcdefghijklAndAbcdefghijkl_AbcdefghijklOrderBy" + LAST_WORD;

    public static void main(String[] args) {
        newDraftIsEmpty();
        newBookHasNoLeaves();
        newBookHasNoFinders();
        newBookHasNoEntities();
        newBookHasNoArguments();
        newBookIsNewBesideOthers();
        typeTakesTheEightieth();
        typeRefusesTheEightyFirst();
        typeTakesTheEndsOfTheRanges();
        typeRefusesWhatIsBesideTheRanges();
        typeRefusesFarCharacters();
        typeRefusesInTheMiddleOfAText();
        eightyThatEndWithinAName();
        scrapOfAnEmptyDraft();
        scrapOfAFullDraft();
        nothingIsSeenOfALongerText();
        scrapLeavesTheRest();
        CHECK.end();
    }

    private static void newDraftIsEmpty() {
        CHECK.about("1: An empty draft");
        new Book(CHECK).names(-1).declare(-1).define(false, -1).define(true, -1);
        new Book(CHECK).add("a").declare(0);
        new Book(CHECK).add("findBy").define(false, 0);
        new Book(CHECK).add("a".repeat(80)).type('a', false);
    }

    private static void newBookHasNoLeaves() {
        CHECK.about("1: no leaves");
        new Book(CHECK).fill(0, 1, false).blank(0, false).names("A", -1).define("findByA", -3);
        new Book(CHECK).save(1, true).value(1, 0, FinderBook.NONE).declare("a", 0).value(1, 0, FinderBook.NULL);
    }

    private static void newBookHasNoFinders() {
        CHECK.about("1: no finders");
        new Book(CHECK).shapes(0, -1, -1, -1, -1, -1, -1).part(0, 0, -1).run(0, -1).define("findBy", 0);
    }

    private static void newBookHasNoEntities() {
        CHECK.about("1: no entities");
        new Book(CHECK).size(0).remove(1, false).remove(0, false).define("findBy", 0).run(0, 0).results();
        new Book(CHECK, "a").value(1, 0, FinderBook.NONE).value(0, 0, FinderBook.NONE);
    }

    private static void newBookHasNoArguments() {
        CHECK.about("1: no arguments");
        new Book(CHECK).define("countBy", 0).run(0, 0);
        new Book(CHECK, "a").define("countByA", 0).run(0, -2);
        new Book(CHECK).args(1, 2, 3, 4, 5, 6, 7, 8, 9, 10, 11, 12).arg(13, false);
    }

    private static void newBookIsNewBesideOthers() {
        CHECK.about("1: a new object, while others are in use");
        Book used = busy();
        new Book(CHECK).names(-1).size(0).results().run(0, -1).fill(0, 1, false).define("countBy", 0).run(0, 0);
        used.alike("a new object beside it", busy());
        used.run(0, 1).results(8);
    }

    private static Book longBook() {
        return new Book(CHECK, "abcdefghijkl.abcdefghijkl", "bc.defghijklmn");
    }

    private static void typeTakesTheEightieth() {
        CHECK.about("2: a text of at most 80 characters, the 80th");
        CHECK.due("length", EIGHTY.length(), 80);
        longBook().write(EIGHTY).define(false, 0).shapes(0, 0, 0, 1, 2, 2, 1).parts(0, 0, 0, 0, 0);
        longBook().write(EIGHTY.substring(0, 79)).define(false, -4).type('n', true).define(false, 0);
    }

    private static void typeRefusesTheEightyFirst() {
        CHECK.about("2: false when 80 are there");
        for (char c : "aZ0_.- ".toCharArray()) {
            longBook().write(EIGHTY).type(c, false).type(c, false).define(false, 0).shapes(0, 0, 0, 1, 2, 2, 1);
        }
        longBook().write(EIGHTY.substring(0, 79)).type('-', false).type('n', true).type('n', false).define(false, 0);
        longBook().write(EIGHTY).type('a', false).define(false, 0).type('a', true).declare(2);
    }

    private static void typeTakesTheEndsOfTheRanges() {
        CHECK.about("2: capitals A .. Z, small letters a .. z, figures 0 .. 9, the line _ and the point");
        for (char c : "AZaz09".toCharArray()) {
            new Book(CHECK).add("a").type(c, true).declare(0).names("A" + c, 0);
        }
        new Book(CHECK, "a.b").add("A").type('_', true).add("B").names(0);
        new Book(CHECK).add("a").type('.', true).add("b").declare(0).names("AB", 0);
    }

    private static void typeRefusesWhatIsBesideTheRanges() {
        CHECK.about("2: false when it is none of those that a draft may have");
        for (char c : "@[`{/:^-,".toCharArray()) {
            new Book(CHECK).type(c, false).declare(-1);
            new Book(CHECK).add("a").type(c, false).declare(0).names("A", 0);
        }
    }

    private static void typeRefusesFarCharacters() {
        CHECK.about("2: false for characters far from those");
        char[] far = {0, 1, ' ', '\n', 127, 128, 255, 'A' + 256, 'a' + 256, '0' + 256, '_' + 256, '.' + 256, 0x130, 0x131,
            0x660, 0x212A, 0xFF10, 0xFF21, 0xFF41, 0xFF3F, 0x7FFF, 0x8000, 0xFFFF};
        for (char c : far) {
            new Book(CHECK).add("a").type(c, false).declare(0).names("A", 0);
        }
    }

    private static void typeRefusesInTheMiddleOfAText() {
        CHECK.about("2: a refused character is no part of the text");
        new Book(CHECK).type(' ', false).add("ab").type('-', false).type('$', false).add("c").type(' ', false).declare(0)
            .names("Abc", 0).names("Ab", -1);
        // Those that were refused do not count among the 80.
        Book book = longBook();
        for (char c : EIGHTY.toCharArray()) {
            book.type(' ', false).type(c, true);
        }
        book.type('n', false).define(false, 0);
    }

    private static void eightyThatEndWithinAName() {
        CHECK.about("2: 80 characters that end where a leaf's name goes on");
        String condition = "Abcdefghijkl_AbcdefghijklAndAbcdefghijkl_Abcdefghijkl";
        String[] texts = {"existsBy" + condition + "OrderByAbcdefghijkl", "countBy" + condition + "OrderByBc_Defghijklm"};
        for (String text : texts) {
            CHECK.due("length", text.length(), 80);
            longBook().write(text).type('n', false).define(false, -4);
        }
    }

    private static void scrapOfAnEmptyDraft() {
        CHECK.about("3: scrap of an empty draft");
        new Book(CHECK).scrap().names(-1).scrap().add("a").declare(0).scrap().scrap().define(false, -1);
        new Book(CHECK, "a").scrap().alike("scrap of an empty draft", new Book(CHECK, "a"));
    }

    private static void scrapOfAFullDraft() {
        CHECK.about("3: scrap of a full draft");
        longBook().write(EIGHTY).scrap().define(false, -1).declare(-1).names(-1).add("a").declare(2);
        longBook().write(EIGHTY).scrap().alike("scrap of a full draft", longBook());
        longBook().write(EIGHTY).scrap().add(EIGHTY).type('n', false).define(false, 0);
    }

    private static void nothingIsSeenOfALongerText() {
        CHECK.about("3: of a text that was scrapped nothing is seen behind a shorter one");
        new Book(CHECK, "x", "orderB", "xNot", "a.b").write("findBy").write("findB").define(false, -1).write("find").write("fin")
            .define(false, -1).write("findByX").write("findBy").define(false, 0).parts(0).write("findTop12By").write("findTop1")
            .define(false, -1).write("findByOrderByX").write("findByOrderB").define(false, 1).parts(1, 1, 0)
            .write("findByXNotNull").write("findByXNot").define(false, 2).parts(2, 0, 1).write("A_B").write("A_").names(-1);
        new Book(CHECK, "x", "y").write("findByXOrY").write("findByXOr").define(false, -3).write("findByXAndY").write("findByXAnd")
            .define(false, -3).write("findByOrderByXDescY").write("findByOrderByXDesc").define(false, 0).shape(0, 5, 1);
        // The same of a text that was made a leaf or a finder.
        new Book(CHECK, "abc").add("a").declare(1).names("Abc", 0).names("A", 1);
        new Book(CHECK, "x").define("findByX", 0).write("findBy").define(false, 1).parts(1).write("findB").define(false, -1);
    }

    private static void scrapLeavesTheRest() {
        CHECK.about("3: scrap makes nothing else empty");
        busy().add("findByX").scrap().alike("a text and scrap", busy());
        busy().add("findByX").scrap().shapes(0, 0, 0, 1, 1, 1, 0).run(0, 1).results(8);
    }

    private static Book busy() {
        return new Book(CHECK, "x").define("findByX", 0).entity(7, 1).entity(8, 2).args(1).run(0, 1).fill(0, 3, true).args(2);
    }
}
