/**
 * "A call that answers less than 0 or false changes nothing, unless it is said": every call that can be refused, on a
 * book that has something of everything and on one that is full. That nothing is changed is seen by Book itself.
 */
public final class RefusalEdgesTest {
    private static final Check CHECK = new Check();
    private static final int[] FAR = {-1, 65536, Integer.MIN_VALUE, Integer.MAX_VALUE};

    public static void main(String[] args) {
        refusedType();
        refusedDeclare();
        refusedNames();
        refusedDefine();
        refusedShapeAndPart();
        refusedFillAndBlank();
        refusedSave();
        refusedRemove();
        refusedArg();
        refusedRun();
        refusedResultAndValue();
        questionsChangeNothing();
        oneAfterTheOther();
        CHECK.end();
    }

    /** Three leaves, four finders, three entities, results, a form, one argument and a draft that names leaf 1. */
    private static Book some() {
        return new Book(CHECK, "x", "yY", "z.z").define("findByX", 0).define("countByYY", 1).define("deleteByX", 2)
            .define("findByX", true, 3).entity(1, 5, 6, 7).entity(2, 5, null, 8).entity(3, 4, 6, null).args(5).run(0, 2)
            .fill(0, 9, true).blank(1, true).args(5).write("YY");
    }

    /** As much of everything as there may be; the draft is a path that is not taken yet. */
    private static Book full() {
        Book book = new Book(CHECK, "a", "b", "c", "d", "e", "f", "g", "h");
        for (int f = 0; f < 7; f++) {
            book.define("findBy" + (char) ('A' + f), f);
        }
        book.define("findBy", 7);
        for (int id = 1; id <= 10; id++) {
            book.fill(id % 8, id, true).save(id, true);
        }
        return book.run(7, 10).args(1, 2, 3, 4, 5, 6, 7, 8, 9, 10, 11, 12).write("i");
    }

    private static void refusedType() {
        CHECK.about("a refused type");
        some().type('-', false).names(1).type(' ', false).names(1);
        full().type('$', false).type((char) 0, false).declare(-3);
        some().add("y".repeat(78)).type('y', false).type('-', false).names(-1);
    }

    private static void refusedDeclare() {
        CHECK.about("a refused declare");
        some().declare(-1).names(1).declare("x", -2).declare("yY.a", -2).declare("z", -2).declare("z.z.a", -2).declare("", -1)
            .declare("w", 3);
        full().declare(-3).declare("a", -2).declare("A", -1).declare("i.j.k", -3).names("H", 7).names("I", -1);
    }

    private static void refusedNames() {
        CHECK.about("names of none");
        some().names(1).add("y").names(-1).scrap().names(-1);
        full().names(-1).names("I", -1).names("A.", -1);
    }

    private static void refusedDefine() {
        CHECK.about("a refused define");
        some().define(false, -1).names(1).define("findTop0ByX", -2).define("findByW", -3).define("findByXOrderBy", -4)
            .define("findByXOrXOrXOrXOrXOrXOrX", -5).define("countByX", true, -6).define("existsByZZOrX", 4);
        full().define(false, -1).define("findByI", -3).define("countByA", true, -6).define("countByA", -7);
        // A text that is refused late is read far: nothing of it may be seen in a finder that is there.
        full().define("countTop9ByHOrderByHDesc", -7).shapes(7, 0, 0, 0, 0, 0, 0).run(7, -2).run(7, 10);
    }

    private static void refusedShapeAndPart() {
        CHECK.about("shape and part of none");
        Book some = some();
        Book full = full();
        for (int n : FAR) {
            some.shape(n, 0, -1).shape(0, n, -1).part(n, 0, -1).part(0, n, -1);
            full.shape(n, 0, -1).shape(0, n, -1).part(n, 0, -1).part(0, n, -1);
        }
        some.shape(4, 0, -1).shape(0, 6, -1).part(4, 0, -1).part(0, 1, -1);
        full.shape(8, 0, -1).shape(7, 6, -1).part(8, 0, -1).part(7, 0, -1);
    }

    private static void refusedFillAndBlank() {
        CHECK.about("a refused fill or blank");
        Book some = some();
        Book full = full();
        for (int n : FAR) {
            some.fill(n, 3, false).blank(n, false);
            full.fill(n, 3, false).blank(n, false);
        }
        some.fill(3, 3, false).blank(3, false).fill(7, 3, false).blank(7, false);
        full.fill(8, 3, false).blank(8, false);
    }

    private static void refusedSave() {
        CHECK.about("a refused save");
        Book some = some();
        Book full = full();
        for (int n : FAR) {
            some.save(n, false);
        }
        some.save(0, false).save(10000, false).size(3);
        full.save(0, false).save(10000, false).save(11, false).save(9999, false).size(10);
    }

    private static void refusedRemove() {
        CHECK.about("a refused remove");
        Book some = some();
        Book full = full();
        for (int n : FAR) {
            some.remove(n, false);
            full.remove(n, false);
        }
        some.remove(0, false).remove(4, false).remove(10000, false).size(3);
        full.remove(0, false).remove(11, false).remove(10000, false).size(10);
    }

    private static void refusedArg() {
        CHECK.about("a refused arg");
        full().arg(99, false).arg(1, false).run(7, -2).arg(99, true);
    }

    private static void refusedRun() {
        CHECK.about("a refused run");
        Book some = some();
        Book full = full();
        for (int n : FAR) {
            some.run(n, -1);
            full.run(n, -1);
        }
        some.run(4, -1).run(7, -1).results(1, 2).run(0, 2);
        full.run(8, -1).arg(13, false);
        // It is said of -2 and -3 what they change, and that is all.
        some().run(0, 2).args(5).run(3, -3).results().size(3).run(3, -2);
        some().args(6).run(2, -2).results(1, 2).size(3).names(1);
    }

    private static void refusedResultAndValue() {
        CHECK.about("result and value of none");
        Book some = some();
        Book full = full();
        for (int n : FAR) {
            some.result(n, 0).value(n, 0, FinderBook.NONE).value(1, n, FinderBook.NONE);
            full.result(n, 0).value(n, 0, FinderBook.NONE).value(1, n, FinderBook.NONE);
        }
        some.result(2, 0).value(4, 0, FinderBook.NONE).value(1, 3, FinderBook.NONE);
        full.result(10, 0).value(11, 0, FinderBook.NONE).value(1, 8, FinderBook.NONE);
    }

    private static void questionsChangeNothing() {
        CHECK.about("questions change nothing, too");
        some().names(1).shapes(1, 1, 0, 1, 1, 1, 0).parts(1, 1, 0).results(1, 2).value(2, 0, 5).value(2, 1, FinderBook.NULL).size(3);
        full().names(-1).shapes(7, 0, 0, 0, 0, 0, 0).parts(6, 6, 0).results(1, 2, 3, 4, 5, 6, 7, 8, 9, 10).value(10, 2, 10).size(10);
    }

    private static void oneAfterTheOther() {
        CHECK.about("refused calls one after the other");
        Book book = full().type('-', false).declare(-3).define(false, -1).names(-1).shape(8, 0, -1).part(8, 0, -1).fill(8, 1, false)
            .blank(8, false).save(11, false).remove(11, false).arg(1, false).run(8, -1).result(10, 0).value(11, 0, FinderBook.NONE);
        book.alike("all of them", full());
    }
}
