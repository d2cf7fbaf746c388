/** Promises 4 and 5: declare and names. */
public final class LeavesTest {
    private static final Check CHECK = new Check();

    public static void main(String[] args) {
        pathsAreTold();
        pathsThatClash();
        noMoreThanEight();
        draftAfterDeclare();
        textsThatSpell();
        longestNameWins();
        CHECK.end();
    }

    private static void pathsAreTold() {
        CHECK.about("4 declare, what a path is");
        String[] wrong = {"", "Age", "1a", "_a", "a_b", ".", "a.", ".a", "a..b", "a.B", "a.1", "a.b.C",
            "a.b.", "a.b.c.", "a.b.c.d", "abcdefghijklm", "a.abcdefghijklm", "a.b.abcdefghijklm", "a_", "a.b_"};
        FinderBook book = new FinderBook();
        for (String path : wrong) {
            CHECK.declare(book, path, -1);
        }
        CHECK.bookOf("a", "bB", "c9Z", "abcdefghijkl", "abcdefghijk0.abcdefghijk1.abcdefghijk2", "d.e", "d.f.g");
    }

    private static void pathsThatClash() {
        CHECK.about("4 declare, paths that clash");
        FinderBook book = CHECK.bookOf("a.b", "c", "d.e.f");
        String[] wrong = {"a.b", "a", "a.b.c", "c", "c.a", "c.a.b", "d", "d.e", "d.e.f"};
        for (String path : wrong) {
            CHECK.declare(book, path, -2);
        }
        CHECK.declare(book, "ab", 3);
        CHECK.declare(book, "a.bc", 4);
        CHECK.declare(book, "d.ef", 5);
        CHECK.declare(book, "cc.a", 6);
        CHECK.declare(book, "d.e.g", 7);
    }

    private static void noMoreThanEight() {
        CHECK.about("4 declare, eight leaves");
        FinderBook book = CHECK.bookOf("a", "b", "c", "d", "e", "f", "g", "h");
        CHECK.declare(book, "i", -3);
        CHECK.declare(book, "h", -2);
        CHECK.declare(book, "h.a", -2);
        CHECK.declare(book, "H", -1);
        CHECK.names(book, "I", -1);
        CHECK.names(book, "H", 7);
        CHECK.due("fill(8, 0)", book.fill(8, 0), false);
    }

    private static void draftAfterDeclare() {
        CHECK.about("4 declare, the draft");
        FinderBook book = CHECK.bookOf("age");
        CHECK.due("declare() of nothing", book.declare(), -1);
        CHECK.write(book, "age");
        CHECK.due("declare()", book.declare(), -2);
        book.type('s');
        CHECK.due("declare() of ages, for the draft stayed", book.declare(), 1);
        CHECK.write(book, "a.");
        CHECK.due("declare()", book.declare(), -1);
        book.type('b');
        CHECK.due("declare() of a.b, for the draft stayed", book.declare(), 2);
    }

    private static void textsThatSpell() {
        CHECK.about("5 names, what spells a leaf");
        FinderBook longest = CHECK.bookOf("abcdefghijk0.abcdefghijk1.abcdefghijk2");
        CHECK.names(longest, "Abcdefghijk0_Abcdefghijk1_Abcdefghijk2", 0);
        CHECK.names(longest, "Abcdefghijk0Abcdefghijk1Abcdefghijk2", 0);
        CHECK.names(longest, "Abcdefghijk0Abcdefghijk1Abcdefghijk", -1);
        CHECK.names(longest, "Abcdefghijk0Abcdefghijk1Abcdefghijk3", -1);
        CHECK.declare(longest, "abcdefghijk0.abcdefghijk1.abcdefghijk3", 1);
        CHECK.names(longest, "Abcdefghijk0Abcdefghijk1Abcdefghijk3", 1);
        FinderBook book = CHECK.bookOf("age", "address.zipCode", "a.b1.c");
        CHECK.names(book, "Age", 0);
        CHECK.names(book, "AddressZipCode", 1);
        CHECK.names(book, "Address_ZipCode", 1);
        CHECK.names(book, "AB1C", 2);
        CHECK.names(book, "A_B1C", 2);
        CHECK.names(book, "AB1_C", 2);
        CHECK.names(book, "A_B1_C", 2);
        String[] wrong = {"", "age", "AGE", "Ag", "Ages", "_Age", "Age_", "address.zipCode", "Address.ZipCode",
            "Address__ZipCode", "Addresszipcode", "AddressZip_Code", "Address", "ZipCode", "A__B1C", "A_B1_C_", "A_B1", "AB1c"};
        for (String text : wrong) {
            CHECK.names(book, text, -1);
        }
    }

    private static void longestNameWins() {
        CHECK.about("5 names, the longest name");
        FinderBook book = CHECK.bookOf("a.bC.d", "a.b.cD", "aB.cD", "aB.c.d", "aBCd", "aBC.d", "aBCD");
        CHECK.names(book, "ABCD", 6);
        CHECK.names(book, "ABC_D", 5);
        CHECK.names(book, "AB_CD", 2);
        CHECK.names(book, "AB_C_D", 3);
        CHECK.names(book, "A_BCD", 0);
        CHECK.names(book, "A_BC_D", 0);
        CHECK.names(book, "A_B_CD", 1);
        CHECK.names(book, "A_B_C_D", -1);
        FinderBook second = CHECK.bookOf("a.b.cD", "a.bC.d", "a.bCD");
        CHECK.names(second, "ABCD", 2);
        CHECK.names(second, "ABC_D", 1);
        CHECK.names(second, "AB_CD", 0);
        FinderBook first = CHECK.bookOf("a.bCDE", "aB.c.dE");
        CHECK.names(first, "ABCDE", 1);
    }
}
