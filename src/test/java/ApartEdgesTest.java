import java.util.Collections;
import java.util.List;
import java.util.Set;
import java.util.function.Consumer;

/** A call changes what is said of it and no more: calls on different matters leave the same in either order. */
public final class ApartEdgesTest {
    private static final Check CHECK = new Check();

    private record Deed(String name, Consumer<Book> call, Set<String> matters) { }

    private static final List<Deed> DEEDS = List.of(
        new Deed("type", book -> book.add("y"), Set.of("draft")),
        new Deed("scrap", Book::scrap, Set.of("draft")),
        new Deed("declare", book -> book.declare("w", 2), Set.of("draft", "leaves")),
        new Deed("names", book -> book.names(1), Set.of("draft", "leaves")),
        new Deed("define", book -> book.define("countByYYNull", 3), Set.of("draft", "leaves", "finders")),
        new Deed("fill", book -> book.fill(0, 8, true), Set.of("form")),
        new Deed("blank", book -> book.blank(1, true), Set.of("form")),
        new Deed("save", book -> book.save(4, true), Set.of("form", "entities")),
        new Deed("save again", book -> book.save(1, true), Set.of("form", "entities")),
        new Deed("remove", book -> book.remove(2, true), Set.of("entities")),
        new Deed("arg", book -> book.args(5), Set.of("arguments")),
        new Deed("run of find", book -> book.args(5).run(0, 2), Set.of("arguments", "entities", "results")),
        new Deed("run of delete", book -> book.args(5).run(1, 2), Set.of("arguments", "entities", "results")),
        new Deed("run of a single one", book -> book.args(5).run(2, -3), Set.of("arguments", "entities", "results")),
        new Deed("run that is refused", book -> book.run(0, -2), Set.of("arguments")));

    public static void main(String[] args) {
        for (Deed first : DEEDS) {
            for (Deed second : DEEDS) {
                if (Collections.disjoint(first.matters, second.matters)) {
                    apart(first, second);
                }
            }
        }
        CHECK.end();
    }

    private static Book book() {
        return new Book(CHECK, "x", "yY").define("findByX", 0).define("deleteByX", 1).define("findByX", true, 2).entity(1, 5, 6)
            .entity(2, 5, null).entity(3, 4, 6).args(4).run(0, 1).fill(0, 9, true).write("YY");
    }

    private static void apart(Deed first, Deed second) {
        CHECK.about(first.name + " and " + second.name);
        Book book = book();
        first.call.accept(book);
        second.call.accept(book);
        Book other = book();
        second.call.accept(other);
        first.call.accept(other);
        book.alike("both", other);
    }
}
