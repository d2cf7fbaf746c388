/** The edges that "Terms" names of entities and the form, and the promises 9 to 12, 17 and 18. */
public final class EntityEdgesTest {
    private static final Check CHECK = new Check();
    private static final int MIN = Integer.MIN_VALUE;
    private static final int MAX = Integer.MAX_VALUE;
    private static final long NULL = FinderBook.NULL;
    private static final long NONE = FinderBook.NONE;

    public static void main(String[] args) {
        formIsNullAtFirst();
        formIsNullForALaterLeaf();
        fillTakesEveryInt();
        fillOfNoSuchLeaf();
        fillOfTheLastLeaf();
        fillChangesTheFormAlone();
        blankMakesNull();
        blankOfNoSuchLeaf();
        saveTakesTheEndsOfTheIds();
        saveRefusesWhatIsBesideTheIds();
        saveTakesTheTenth();
        saveRefusesTheEleventh();
        saveOfAStoredIdWhenThereAreTen();
        saveHasRoomAgainAfterRemove();
        saveHasRoomAgainAfterDelete();
        saveLeavesTheForm();
        savedAgainStandsWhereItStood();
        savedAfterRemoveStandsLast();
        laterLeavesAreNullInStoredEntities();
        removeOfNone();
        removeTwice();
        removeTheFirstAndTheLast();
        removeFromAFullStore();
        valueOfEveryInt();
        valueOfNoSuchEntity();
        valueOfNoSuchLeaf();
        valueOfTheConstants();
        sizeFromNoneToTen();
        sizeAfterRefusedCalls();
        CHECK.end();
    }

    private static Book ten() {
        Book book = new Book(CHECK, "x").define("findBy", 0);
        for (int id = 1; id <= 10; id++) {
            book.entity(id, 10 * id);
        }
        return book;
    }

    private static void formIsNullAtFirst() {
        CHECK.about("Terms: the form has a value for each leaf, null at first");
        Book book = new Book(CHECK, "a", "b", "c", "d", "e", "f", "g", "h").save(1, true);
        for (int leaf = 0; leaf < 8; leaf++) {
            book.value(1, leaf, NULL);
        }
    }

    private static void formIsNullForALaterLeaf() {
        CHECK.about("Terms: null at first, of a leaf that is declared later");
        new Book(CHECK).fill(0, 5, false).declare("x", 0).fill(1, 6, false).save(1, true).value(1, 0, NULL).declare("y", 1)
            .save(2, true).value(2, 0, NULL).value(2, 1, NULL).fill(1, 6, true).save(3, true).value(3, 0, NULL).value(3, 1, 6);
    }

    private static void fillTakesEveryInt() {
        CHECK.about("9: the form's value for the leaf becomes v");
        for (int v : new int[] {0, 1, -1, 127, 128, 32768, 65536, MIN, MAX, MIN + 1, MAX - 1, (int) NULL, (int) NONE}) {
            new Book(CHECK, "x").fill(0, v, true).save(1, true).value(1, 0, v).fill(0, ~v, true).save(1, true).value(1, 0, ~v);
        }
    }

    private static void fillOfNoSuchLeaf() {
        CHECK.about("9: false when there is no such leaf");
        new Book(CHECK).fill(0, 1, false).declare("x", 0).fill(0, 1, true).fill(1, 1, false);
        for (int leaf : new int[] {-1, 2, 3, 7, 8, 9, 65536, MIN, MAX}) {
            new Book(CHECK, "x", "y").fill(0, 3, true).fill(1, 4, true).fill(leaf, 5, false).save(1, true).value(1, 0, 3).value(1, 1, 4);
        }
    }

    private static void fillOfTheLastLeaf() {
        CHECK.about("9: fill of the eighth leaf, and of none behind it");
        new Book(CHECK, "a", "b", "c", "d", "e", "f", "g", "h").fill(7, 5, true).fill(8, 6, false).fill(-1, 7, false).save(1, true)
            .value(1, 7, 5).value(1, 6, NULL).value(1, 0, NULL);
    }

    private static void fillChangesTheFormAlone() {
        CHECK.about("9: the form's value for the leaf, and nothing else");
        new Book(CHECK, "x", "y").entity(1, 3, 4).fill(0, 5, true).value(1, 0, 3).value(1, 1, 4).save(2, true).value(2, 0, 5)
            .value(2, 1, 4).value(1, 0, 3).blank(0, true).value(2, 0, 5);
    }

    private static void blankMakesNull() {
        CHECK.about("10: the form's value for the leaf becomes null");
        new Book(CHECK, "x", "y").blank(0, true).entity(1, 3, 4).blank(0, true).blank(0, true).value(1, 0, 3).save(2, true)
            .value(2, 0, NULL).value(2, 1, 4).blank(1, true).save(1, true).value(1, 0, NULL).value(1, 1, NULL);
        new Book(CHECK, "a", "b", "c", "d", "e", "f", "g", "h").fill(7, 5, true).blank(7, true).save(1, true).value(1, 7, NULL);
    }

    private static void blankOfNoSuchLeaf() {
        CHECK.about("10: false when there is no such leaf");
        new Book(CHECK).blank(0, false).declare("x", 0).blank(0, true).blank(1, false);
        for (int leaf : new int[] {-1, 2, 3, 7, 8, 9, 65536, MIN, MAX}) {
            new Book(CHECK, "x", "y").fill(0, 3, true).fill(1, 4, true).blank(leaf, false).save(1, true).value(1, 0, 3).value(1, 1, 4);
        }
        new Book(CHECK, "a", "b", "c", "d", "e", "f", "g", "h").fill(7, 5, true).blank(8, false).save(1, true).value(1, 7, 5);
    }

    private static void saveTakesTheEndsOfTheIds() {
        CHECK.about("11: an id, 1 .. 9999");
        new Book(CHECK, "x").entity(1, 5).entity(9999, 6).entity(2, 7).entity(9998, 8).size(4).value(1, 0, 5).value(9999, 0, 6)
            .value(2, 0, 7).value(9998, 0, 8).define("findBy", 0).run(0, 4).results(1, 9999, 2, 9998);
    }

    private static void saveRefusesWhatIsBesideTheIds() {
        CHECK.about("11: false when the id is not 1 .. 9999");
        for (int id : new int[] {0, -1, 10000, 10001, -9999, 65537, MIN, MAX, MIN + 1}) {
            new Book(CHECK, "x").save(id, false).size(0).value(id, 0, NONE).entity(1, 5).save(id, false).size(1).remove(id, false)
                .value(1, 0, 5);
        }
    }

    private static void saveTakesTheTenth() {
        CHECK.about("11: at most 10 are stored, the tenth");
        ten().size(10).value(10, 0, 100).run(0, 10).results(1, 2, 3, 4, 5, 6, 7, 8, 9, 10);
    }

    private static void saveRefusesTheEleventh() {
        CHECK.about("11: false when it is new and there are 10");
        ten().save(11, false).save(9999, false).save(0, false).size(10).value(11, 0, NONE).value(10, 0, 100).remove(11, false)
            .run(0, 10).results(1, 2, 3, 4, 5, 6, 7, 8, 9, 10);
    }

    private static void saveOfAStoredIdWhenThereAreTen() {
        CHECK.about("11: an entity that has the id already gets these values, when there are 10");
        for (int id = 1; id <= 10; id++) {
            ten().fill(0, 7, true).save(id, true).size(10).value(id, 0, 7).value(id % 10 + 1, 0, 10 * (id % 10 + 1)).run(0, 10)
                .results(1, 2, 3, 4, 5, 6, 7, 8, 9, 10);
        }
    }

    private static void saveHasRoomAgainAfterRemove() {
        CHECK.about("11: a new one when there are no longer 10");
        ten().save(11, false).remove(4, true).size(9).fill(0, 7, true).save(11, true).size(10).value(11, 0, 7).save(4, false)
            .run(0, 10).results(1, 2, 3, 5, 6, 7, 8, 9, 10, 11);
    }

    private static void saveHasRoomAgainAfterDelete() {
        CHECK.about("11: a new one when a run deleted some of 10");
        ten().define("deleteByXLessThan", 1).args(35).run(1, 3).size(7).save(11, true).save(1, true).save(2, true).save(3, false)
            .size(10).run(0, 10).results(4, 5, 6, 7, 8, 9, 10, 11, 1, 2);
    }

    private static void saveLeavesTheForm() {
        CHECK.about("11: the values of the form, which stays as it is");
        new Book(CHECK, "x", "y").fill(0, 3, true).save(1, true).save(2, true).fill(1, 4, true).save(3, true).save(1, true)
            .value(1, 0, 3).value(1, 1, 4).value(2, 0, 3).value(2, 1, NULL).value(3, 0, 3).value(3, 1, 4);
        ten().save(11, false).remove(1, true).save(11, true).value(11, 0, 100);
    }

    private static void savedAgainStandsWhereItStood() {
        CHECK.about("11: and stands where it stood");
        for (int id : new int[] {30, 10, 20}) {
            new Book(CHECK, "x").define("findBy", 0).entity(30, 1).entity(10, 2).entity(20, 3).entity(id, 9).size(3).value(id, 0, 9)
                .run(0, 3).results(30, 10, 20);
        }
    }

    private static void savedAfterRemoveStandsLast() {
        CHECK.about("Terms: in the order in which their ids were saved first since they were removed last");
        for (int id : new int[] {30, 10, 20}) {
            int first = id == 30 ? 10 : 30;
            int second = id == 20 ? 10 : 20;
            new Book(CHECK, "x").define("findBy", 0).entity(30, 1).entity(10, 2).entity(20, 3).remove(id, true).entity(id, 4)
                .entity(first, 5).run(0, 3).results(first, second, id).value(id, 0, 4).value(first, 0, 5);
        }
        // A run that deletes removes, too.
        new Book(CHECK, "x").define("findBy", 0).define("deleteByX", 1).entity(3, 1).entity(1, 2).entity(2, 3).args(1).run(1, 1)
            .entity(3, 1).run(0, 3).results(1, 2, 3);
    }

    private static void laterLeavesAreNullInStoredEntities() {
        CHECK.about("11: of a leaf that is declared later, stored entities have null");
        new Book(CHECK, "x").entity(1, 3).fill(1, 4, false).declare("y", 1).value(1, 1, NULL).value(1, 0, 3).fill(1, 4, true)
            .value(1, 1, NULL).save(2, true).define("findByYNull", 0).run(0, 1).results(1).save(1, true).value(1, 1, 4);
        // Also where an entity stood before that is gone.
        new Book(CHECK, "x", "y").entity(1, 3, 4).remove(1, true).blank(1, true).entity(2, 5).declare("z", 2).value(2, 1, NULL)
            .value(2, 2, NULL);
        new Book(CHECK).save(1, true).value(1, 0, NONE).declare("x", 0).value(1, 0, NULL).declare("y", 1).value(1, 1, NULL);
    }

    private static void removeOfNone() {
        CHECK.about("12: false when there is none with this id");
        new Book(CHECK).remove(1, false).remove(0, false).remove(9999, false);
        for (int id : new int[] {0, -1, 1, 3, 9999, 10000, 65538, MIN, MAX}) {
            new Book(CHECK, "x").entity(2, 5).entity(4, 6).remove(id, false).size(2).value(2, 0, 5).value(4, 0, 6);
        }
    }

    private static void removeTwice() {
        CHECK.about("12: removes the entity, once");
        new Book(CHECK, "x").entity(2, 5).entity(4, 6).remove(2, true).remove(2, false).size(1).value(2, 0, NONE).value(4, 0, 6)
            .entity(2, 7).remove(2, true).remove(4, true).remove(4, false).size(0);
    }

    private static void removeTheFirstAndTheLast() {
        CHECK.about("12: removes the first, one between, and the last");
        Book book = new Book(CHECK, "x").define("findBy", 0);
        for (int id = 1; id <= 5; id++) {
            book.entity(id, 10 * id);
        }
        book.remove(1, true).run(0, 4).results(2, 3, 4, 5).remove(5, true).run(0, 3).results(2, 3, 4).remove(3, true).run(0, 2)
            .results(2, 4).value(2, 0, 20).value(4, 0, 40).value(3, 0, NONE).remove(2, true).remove(4, true).run(0, 0).results();
    }

    private static void removeFromAFullStore() {
        CHECK.about("12: removes all of ten");
        Book book = ten();
        for (int id = 10; id >= 1; id--) {
            book.size(id).remove(id, true);
        }
        book.size(0).remove(1, false).run(0, 0).entity(5, 7).size(1).run(0, 1).results(5);
    }

    private static void valueOfEveryInt() {
        CHECK.about("17: the value of the stored entity with this id for the leaf, or NULL");
        new Book(CHECK, "x", "y").entity(1, MIN, MAX).entity(9999, 0, null).entity(3, (int) NULL, (int) NONE).value(1, 0, MIN)
            .value(1, 1, MAX).value(9999, 0, 0).value(9999, 1, NULL).value(3, 0, (int) NULL).value(3, 1, (int) NONE);
    }

    private static void valueOfNoSuchEntity() {
        CHECK.about("17: NONE when there is no such entity");
        new Book(CHECK, "x").value(0, 0, NONE).value(1, 0, NONE);
        Book book = new Book(CHECK, "x").entity(2, 5).entity(4, 6).remove(4, true);
        for (int id : new int[] {0, -1, 1, 3, 4, 9999, 10000, 65538, MIN, MAX}) {
            book.value(id, 0, NONE).value(id, 1, NONE);
        }
    }

    private static void valueOfNoSuchLeaf() {
        CHECK.about("17: NONE when there is no such leaf");
        new Book(CHECK).save(1, true).value(1, 0, NONE);
        Book book = new Book(CHECK, "x", "y").entity(2, 5, null);
        for (int leaf : new int[] {-1, 2, 3, 7, 8, 9, 65536, MIN, MAX}) {
            book.value(2, leaf, NONE);
        }
        new Book(CHECK, "a", "b", "c", "d", "e", "f", "g", "h").save(1, true).value(1, 7, NULL).value(1, 8, NONE);
    }

    private static void valueOfTheConstants() {
        CHECK.about("Terms: the constants");
        CHECK.due("NULL", NULL, 3000000000L);
        CHECK.due("NONE", NONE, 4000000000L);
    }

    private static void sizeFromNoneToTen() {
        CHECK.about("18: how many entities are stored");
        Book book = new Book(CHECK).size(0);
        for (int id = 1; id <= 10; id++) {
            book.save(id, true).size(id);
        }
        book.save(1, true).size(10).remove(1, true).size(9).define("deleteTop4By", 0).run(0, 4).size(5).define("deleteBy", 1)
            .run(1, 5).size(0).run(1, 0).size(0).save(1, true).size(1);
    }

    private static void sizeAfterRefusedCalls() {
        CHECK.about("18: size is as it was after what was refused");
        ten().save(11, false).size(10).save(10000, false).size(10).remove(11, false).size(10).define("deleteByX", 1).run(1, -2)
            .size(10).run(2, -1).size(10).args(5).run(1, 0).size(10);
    }
}
