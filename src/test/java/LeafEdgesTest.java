/** The edges that "Terms" names of leaves, and the promises 4 and 5. */
public final class LeafEdgesTest {
    private static final Check CHECK = new Check();
    // What may stand before and behind a name in a path, so that it is the first, second or third of one, two or three.
    private static final String[][] AROUND = {{"", ""}, {"", ".b"}, {"", ".b.c"}, {"a.", ""}, {"a.", ".c"}, {"a.b.", ""}};

    public static void main(String[] args) {
        nameIsAtLeastOne();
        nameIsAtMostTwelve();
        nameBeginsWithASmallLetter();
        nameGoesOnWithLettersAndFigures();
        pathHasOneToThreeNames();
        pathHasAPointBetweenNames();
        longestPath();
        leavesAreNumberedInTheirOrder();
        noMoreThanEight();
        noPathTwice();
        noFirstNamesOfALeaf();
        noLeafBeforeMoreNames();
        nearPathsAreTaken();
        firstAnswerCounts();
        declareEmptiesTheDraft();
        refusedDeclareKeepsTheDraft();
        spellsWithCapitals();
        spellsWithOneLineOrNone();
        spellsTheWholePath();
        namesTheLongestFirstName();
        namesTheLongestSecondName();
        namesNoneWhereItSpellsNone();
        namesHasNoPoint();
        namesKeepsTheDraft();
        CHECK.end();
    }

    private static void declareAround(String name, int want) {
        for (String[] around : AROUND) {
            new Book(CHECK).declare(around[0] + name + around[1], want);
        }
    }

    private static void nameIsAtLeastOne() {
        CHECK.about("Terms: a name is a small letter with 0 .. behind it");
        declareAround("d", 0);
        declareAround("", -1);
    }

    private static void nameIsAtMostTwelve() {
        CHECK.about("Terms: a name has 0 to 11 letters or figures behind the small letter");
        declareAround("defghijklmn", 0);
        declareAround("defghijklmno", 0);
        declareAround("defghijklmnop", -1);
        declareAround("defghijklmnopq", -1);
        declareAround("d".repeat(68), -1);
        declareAround("d01234567890", 0);
        declareAround("d012345678901", -1);
        declareAround("dABCDEFGHIJK", 0);
        declareAround("dABCDEFGHIJKL", -1);
    }

    private static void nameBeginsWithASmallLetter() {
        CHECK.about("Terms: a name is a small letter with ..");
        for (String first : new String[] {"e", "z", "ez", "zE", "e9"}) {
            declareAround(first, 0);
        }
        for (String first : new String[] {"A", "Z", "0", "9", "_", "Ab", "Zb", "0b", "9b", "_b"}) {
            declareAround(first, -1);
        }
        new Book(CHECK).declare("a", 0).declare("z", 1);
    }

    private static void nameGoesOnWithLettersAndFigures() {
        CHECK.about("Terms: .. letters (capital or small) or figures behind it");
        for (char c : "AZaz09".toCharArray()) {
            declareAround("d" + c, 0);
            declareAround("d" + c + "e", 0);
        }
        declareAround("d_", -1);
        declareAround("d_e", -1);
    }

    private static void pathHasOneToThreeNames() {
        CHECK.about("Terms: a path is one, two or three names");
        new Book(CHECK).declare("", -1).declare("a", 0).declare("b.c", 1).declare("d.e.f", 2).declare("g.h.i.j", -1)
            .declare("g.h.i.j.k", -1).names("AB", -1);
        // The fourth is told from the third also when names are short or long.
        new Book(CHECK).declare("abcdefghijkl.abcdefghijkl.abcdefghijkl.a", -1).declare("a.a.a.abcdefghijkl", -1);
    }

    private static void pathHasAPointBetweenNames() {
        CHECK.about("Terms: with a point between one and the next");
        String[] wrong = {".", "..", ".a", "a.", "a..b", "..a", "a..", ".a.b", "a.b.", "a.b.c.", "a..b.c", "a.b..c", "a_b", "a._b"};
        for (String path : wrong) {
            new Book(CHECK).declare(path, -1).declare("a", 0);
        }
    }

    private static void longestPath() {
        CHECK.about("Terms: three names of twelve");
        String path = "abcdefghijkl.mnopqrstuvwx.yz0123456789";
        new Book(CHECK).declare(path, 0).names("AbcdefghijklMnopqrstuvwxYz0123456789", 0)
            .names("Abcdefghijkl_Mnopqrstuvwx_Yz0123456789", 0).names("AbcdefghijklMnopqrstuvwxYz012345678", -1)
            .declare(path, -2);
        new Book(CHECK, path).declare("abcdefghijkl.mnopqrstuvwx.yz0123456788", 1);
    }

    private static void leavesAreNumberedInTheirOrder() {
        CHECK.about("Terms: leaves have numbers 0, 1, .. in the order in which they were declared");
        new Book(CHECK).declare("z", 0).declare("B", -1).declare("a", 1).declare("a", -2).declare("m.n", 2).names("Z", 0)
            .names("A", 1).names("MN", 2);
    }

    private static Book eight() {
        return new Book(CHECK, "a", "b", "c", "d", "e", "f", "g.h", "i.j");
    }

    private static void noMoreThanEight() {
        CHECK.about("4: -3 when there are 8 leaves");
        new Book(CHECK, "a", "b", "c", "d", "e", "f", "g.h").fill(7, 1, false).declare("i.j", 7).fill(7, 1, true);
        eight().declare("k", -3).names("K", -1).names("IJ", 7).names("A", 0).fill(8, 1, false).blank(8, false);
        eight().declare("i.k", -3).declare("k.a.b", -3).names("IK", -1).save(1, true).value(1, 7, FinderBook.NULL)
            .value(1, 8, FinderBook.NONE);
        eight().declare("k", -3).add("l").declare(-3).names("Kl", -1);
    }

    private static void noPathTwice() {
        CHECK.about("4: -2 when it is a leaf's path already");
        for (String path : new String[] {"a", "a.b", "a.b.c", "abcdefghijkl", "a1.b2.c3"}) {
            new Book(CHECK, path).declare(path, -2).declare("z", 1).declare(path, -2);
            new Book(CHECK, "z", path).declare(path, -2).declare("z", -2);
        }
        new Book(CHECK, "a", "b", "c", "d", "e", "f", "g").declare("a", -2).declare("d", -2).declare("g", -2);
    }

    private static void noFirstNamesOfALeaf() {
        CHECK.about("4: -2 when its names are the first names of a leaf's path");
        new Book(CHECK, "z", "ab.cd").declare("ab", -2);
        new Book(CHECK, "z", "ab.cd.ef").declare("ab", -2).declare("ab.cd", -2);
        // Names, not characters: these begin alike, too.
        new Book(CHECK, "ab.cd.ef").declare("a", 1).declare("ab.c", 2).declare("ab.cd.e", 3).declare("abc", 4);
    }

    private static void noLeafBeforeMoreNames() {
        CHECK.about("4: -2 when of its names the first ones are a leaf's path");
        new Book(CHECK, "z", "ab").declare("ab.c", -2).declare("ab.c.d", -2).declare("ab.ab", -2);
        new Book(CHECK, "z", "ab.cd").declare("ab.cd.e", -2).declare("ab.cd.cd", -2);
        new Book(CHECK, "ab", "cd.e").declare("abc.d", 2).declare("a.b", 3).declare("cd.ef.g", 4).declare("cd.f.e", 5);
    }

    private static void nearPathsAreTaken() {
        CHECK.about("4: a path that only looks alike is declared");
        new Book(CHECK, "ab").declare("aB", 1).declare("b.ab", 2).declare("abb", 3).declare("a", 4);
        new Book(CHECK, "ab.cd").declare("cd.ab", 1).declare("cd", -2).declare("ab.cD", 2).declare("ab.ef", 3)
            .declare("aB.cd", 4).declare("abcd", 5).declare("ab.c", 6).declare("ab.cde.f", 7);
    }

    private static void firstAnswerCounts() {
        CHECK.about("4: -1, else -2, else -3");
        eight().declare("", -1).declare("A", -1).declare("a.", -1).declare("a.b.c.d", -1).declare("a_b", -1);
        eight().declare("a", -2).declare("a.b", -2).declare("g", -2).declare("i.j.k", -2).declare("k", -3);
        new Book(CHECK, "a.b.c").declare("a.b.c.d", -1).declare("a.b.", -1).declare("a.b", -2);
    }

    private static void declareEmptiesTheDraft() {
        CHECK.about("4: declares a leaf by the draft and makes the draft empty");
        new Book(CHECK).add("a").declare(0).declare(-1).names(-1).add("b").declare(1).names("B", 1);
        new Book(CHECK).add("a").declare(0).add("b".repeat(80)).type('b', false);
    }

    private static void refusedDeclareKeepsTheDraft() {
        CHECK.about("4: when it answers less than 0 the draft stays");
        new Book(CHECK).add("a.").declare(-1).add("b").declare(0).names("AB", 0);
        new Book(CHECK, "a").add("a").declare(-2).add("b").declare(1).names("Ab", 1);
        eight().add("A").declare(-1).names(0).declare(-1).names(0);
        new Book(CHECK, "a").add("findByANotNull").declare(-1).define(false, 0).parts(0, 0, 8);
    }

    private static void spellsWithCapitals() {
        CHECK.about("Terms: the first letter of each made a capital");
        Book book = new Book(CHECK, "ab.cd.ef", "a", "z.z9");
        book.names("AbCdEf", 0).names("abCdEf", -1).names("AbcdEf", -1).names("AbCdef", -1).names("ABCdEf", -1);
        book.names("A", 1).names("a", -1).names("ZZ9", 2).names("Zz9", -1).names("zZ9", -1);
    }

    private static void spellsWithOneLineOrNone() {
        CHECK.about("Terms: with one line or nothing between one and the next");
        Book book = new Book(CHECK, "ab.cd.ef", "gh");
        book.names("Ab_CdEf", 0).names("AbCd_Ef", 0).names("Ab_Cd_Ef", 0).names("AbCdEf", 0);
        book.names("Ab__CdEf", -1).names("AbCd__Ef", -1).names("_AbCdEf", -1).names("AbCdEf_", -1).names("A_bCdEf", -1);
        book.names("AbC_dEf", -1).names("Gh_", -1).names("_Gh", -1).names("G_h", -1).names("_", -1);
    }

    private static void spellsTheWholePath() {
        CHECK.about("Terms: it consists of the names of its path");
        Book book = new Book(CHECK, "ab.cd.ef", "gh");
        book.names("AbCdE", -1).names("AbCdEff", -1).names("AbCd", -1).names("AbCd_", -1).names("CdEf", -1).names("AbEf", -1);
        book.names("AbCdEfGh", -1).names("CdAbEf", -1).names("G", -1).names("Ghi", -1).names("GhGh", -1).names("Gh", 1);
    }

    private static void namesTheLongestFirstName() {
        CHECK.about("Terms: the one with the longest first name");
        new Book(CHECK, "a.bCd", "aB.cd", "aBCd").names("ABCd", 2).names("AB_Cd", 1).names("A_BCd", 0);
        new Book(CHECK, "aBCd", "aB.cd", "a.bCd").names("ABCd", 0).names("AB_Cd", 1).names("A_BCd", 2);
        // The first name goes before the second, and before the number of names.
        new Book(CHECK, "a.bCDE", "aB.c.dE").names("ABCDE", 1);
        new Book(CHECK, "aB.c.dE", "a.bCDE").names("ABCDE", 0);
        // Of the leaves that it spells, not of all.
        new Book(CHECK, "aBCDE", "a.b").names("AB", 1);
    }

    private static void namesTheLongestSecondName() {
        CHECK.about("Terms: if several have that, of these the one with the longest second name");
        new Book(CHECK, "a.b.cD", "a.bC.d", "a.bCD").names("ABCD", 2).names("ABC_D", 1).names("AB_CD", 0);
        new Book(CHECK, "a.bCD", "a.bC.d", "a.b.cD").names("ABCD", 0).names("ABC_D", 1).names("AB_CD", 2);
        new Book(CHECK, "a.bC.d", "a.b.cD").names("ABCD", 0);
        new Book(CHECK, "a.b.cD", "a.bC.d").names("ABCD", 1);
        // Only of these: a longer second name is of no use behind a shorter first one.
        new Book(CHECK, "a.bCDE", "aB.cDE", "aB.c.dE").names("ABCDE", 1);
    }

    private static void namesNoneWhereItSpellsNone() {
        CHECK.about("5: -1 when it names none");
        new Book(CHECK).names(-1).names("A", -1);
        new Book(CHECK, "a").names("", -1).names("B", -1).names("AA", -1).names("A", 0);
        eight().names("H", -1).names("G", -1).names("GH", 6).names("IJ", 7).names("K", -1);
    }

    private static void namesHasNoPoint() {
        CHECK.about("5: its text may not hold a point");
        new Book(CHECK, "a.b", "c").names("A.B", -1).names("AB.", -1).names(".AB", -1).names("a.b", -1).names("A._B", -1)
            .names("C.", -1).names(".", -1).names("AB", 0);
    }

    private static void namesKeepsTheDraft() {
        CHECK.about("5: it stays");
        new Book(CHECK, "ab", "abc").add("Ab").names(0).names(0).add("c").names(1).names(1).add("d").names(-1).names(-1);
        new Book(CHECK, "x").add("findByX").names(-1).define(false, 0);
        new Book(CHECK, "x").add("y").names(-1).declare(1);
    }
}
