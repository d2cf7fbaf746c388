import java.util.ArrayList;
import java.util.Comparator;
import java.util.LinkedHashMap;
import java.util.List;
import java.util.Map;
import java.util.regex.Matcher;
import java.util.regex.Pattern;
import java.util.stream.Collectors;

/** The document once more, by regular expressions and lists, to be held against FinderBook. */
final class Model {
    private static final Pattern TEXT =
        Pattern.compile("(find|count|exists|delete)(?:(Top|First)([0-9]*))?By(.*)");
    private static final Pattern PATH =
        Pattern.compile("[a-z][A-Za-z0-9]{0,11}(\\.[a-z][A-Za-z0-9]{0,11}){0,2}");
    private static final List<String> SUBJECTS = List.of("find", "count", "exists", "delete");
    private static final List<String> WORDS = List.of("", "Not", "LessThan", "LessThanEqual", "GreaterThan",
        "GreaterThanEqual", "Between", "Null", "NotNull", "True", "False");
    private static final Map<String, Integer> KEYWORDS = keywords();

    private record Part(int leaf, int keyword) { }

    private record Order(int leaf, boolean descends) { }

    private record Finder(int subject, int limit, boolean single, List<List<Part>> alternatives, List<Order> orders) {
        List<Part> parts() {
            return alternatives.stream().flatMap(List::stream).collect(Collectors.toList());
        }

        int takes() {
            return parts().stream().mapToInt(part -> takes(part.keyword)).sum();
        }

        static int takes(int keyword) {
            return keyword == 6 ? 2 : keyword > 6 ? 0 : 1;
        }
    }

    private String draft = "";
    private final List<String> leaves = new ArrayList<>();
    private final List<Finder> finders = new ArrayList<>();
    private final Map<Integer, Integer[]> entities = new LinkedHashMap<>();
    private final Integer[] form = new Integer[8];
    private List<Integer> arguments = new ArrayList<>();
    private List<Integer> results = List.of();

    private static Map<String, Integer> keywords() {
        Map<String, Integer> all = new LinkedHashMap<>();
        for (int keyword = 0; keyword < WORDS.size(); keyword++) {
            all.put(WORDS.get(keyword), keyword);
            all.put("Is" + WORDS.get(keyword), keyword);
        }
        all.put("Equals", 0);
        return all;
    }

    boolean type(char c) {
        if (draft.length() == 80 || !String.valueOf(c).matches("[A-Za-z0-9_.]")) {
            return false;
        }
        draft += c;
        return true;
    }

    void scrap() {
        draft = "";
    }

    int declare() {
        if (!PATH.matcher(draft).matches()) {
            return -1;
        }
        for (String leaf : leaves) {
            if ((leaf + ".").startsWith(draft + ".") || (draft + ".").startsWith(leaf + ".")) {
                return -2;
            }
        }
        if (leaves.size() == 8) {
            return -3;
        }
        leaves.add(draft);
        draft = "";
        return leaves.size() - 1;
    }

    int names() {
        return leafNamed(draft);
    }

    private int leafNamed(String text) {
        List<String> spelled = leaves.stream().filter(leaf -> spells(text, leaf)).collect(Collectors.toList());
        return spelled.stream()
            .max(Comparator.comparingInt((String leaf) -> nameLength(leaf, 0)).thenComparing(leaf -> nameLength(leaf, 1)))
            .map(leaves::indexOf).orElse(-1);
    }

    private static int nameLength(String leaf, int which) {
        String[] names = leaf.split("\\.");
        return which < names.length ? names[which].length() : 0;
    }

    private static boolean spells(String text, String leaf) {
        List<String> names = new ArrayList<>();
        for (String name : leaf.split("\\.")) {
            names.add(name.substring(0, 1).toUpperCase() + name.substring(1));
        }
        return text.matches(String.join("_?", names));
    }

    int define(boolean single) {
        Matcher matcher = TEXT.matcher(draft);
        if (!matcher.matches()) {
            return -1;
        }
        String figures = matcher.group(3);
        int limit = 0;
        if (figures != null) {
            if (figures.length() > 3 || figures.matches("0+")) {
                return -2;
            }
            limit = figures.isEmpty() ? 1 : Integer.parseInt(figures);
        }
        String[] rest = matcher.group(4).split("OrderBy", 2);
        List<List<Part>> alternatives = alternativesOf(rest[0]);
        if (alternatives == null) {
            return -3;
        }
        List<Order> orders = rest.length == 1 ? List.of() : ordersOf(rest[1]);
        if (orders == null) {
            return -4;
        }
        int subject = SUBJECTS.indexOf(matcher.group(1));
        Finder finder = new Finder(subject, limit, single, alternatives, orders);
        if (finder.parts().size() > 6 || orders.size() > 3) {
            return -5;
        }
        if (single && subject != 0) {
            return -6;
        }
        if (finders.size() == 8) {
            return -7;
        }
        finders.add(finder);
        draft = "";
        return finders.size() - 1;
    }

    private List<List<Part>> alternativesOf(String condition) {
        List<List<Part>> alternatives = new ArrayList<>();
        if (condition.isEmpty()) {
            return alternatives;
        }
        for (String alternative : condition.split("Or(?=[A-Z])", -1)) {
            List<Part> parts = new ArrayList<>();
            for (String text : alternative.split("And(?=[A-Z])", -1)) {
                Part part = partOf(text);
                if (part == null) {
                    return null;
                }
                parts.add(part);
            }
            alternatives.add(parts);
        }
        return alternatives;
    }

    private Part partOf(String text) {
        Part best = null;
        int longest = -1;
        for (Map.Entry<String, Integer> keyword : KEYWORDS.entrySet()) {
            int length = keyword.getKey().length();
            if (text.endsWith(keyword.getKey()) && length > longest) {
                int leaf = leafNamed(text.substring(0, text.length() - length));
                if (leaf >= 0) {
                    best = new Part(leaf, keyword.getValue());
                    longest = length;
                }
            }
        }
        return best;
    }

    private List<Order> ordersOf(String text) {
        List<Order> orders = new ArrayList<>();
        for (String piece : text.split("(?<=Asc|Desc)(?=[A-Z])", -1)) {
            int leaf = leafNamed(piece.replaceFirst("(Asc|Desc)$", ""));
            if (leaf < 0) {
                return null;
            }
            orders.add(new Order(leaf, piece.endsWith("Desc")));
        }
        return orders;
    }

    int shape(int f, int which) {
        if (f < 0 || f >= finders.size() || which < 0 || which > 5) {
            return -1;
        }
        Finder finder = finders.get(f);
        return List.of(finder.subject, finder.limit, finder.alternatives.size(), finder.parts().size(), finder.takes(),
            finder.orders.size()).get(which);
    }

    int part(int f, int k) {
        if (f < 0 || f >= finders.size() || k < 0 || k >= finders.get(f).parts().size()) {
            return -1;
        }
        Part part = finders.get(f).parts().get(k);
        return 16 * part.leaf + part.keyword;
    }

    boolean fill(int leaf, Integer v) {
        if (leaf < 0 || leaf >= leaves.size()) {
            return false;
        }
        form[leaf] = v;
        return true;
    }

    boolean save(int id) {
        if (id < 1 || id > 9999 || (!entities.containsKey(id) && entities.size() == 10)) {
            return false;
        }
        entities.put(id, form.clone());
        return true;
    }

    boolean remove(int id) {
        return entities.remove(id) != null;
    }

    boolean arg(int v) {
        return arguments.size() < 12 && arguments.add(v);
    }

    int run(int f) {
        if (f < 0 || f >= finders.size()) {
            return -1;
        }
        Finder finder = finders.get(f);
        List<Integer> given = arguments;
        arguments = new ArrayList<>();
        if (given.size() != finder.takes()) {
            return -2;
        }
        List<Integer> finding = findingOf(finder, given);
        results = finder.subject == 0 && !(finder.single && finding.size() > 1) ? finding : List.of();
        switch (finder.subject) {
            case 0:
                return finder.single && finding.size() > 1 ? -3 : finding.size();
            case 2:
                return finding.isEmpty() ? 0 : 1;
            case 3:
                entities.keySet().removeAll(finding);
                return finding.size();
            default:
                return finding.size();
        }
    }

    private List<Integer> findingOf(Finder finder, List<Integer> given) {
        Comparator<Integer> order = (left, right) -> 0;
        for (Order next : finder.orders) {
            Comparator<Integer> values = Comparator.comparing((Integer id) -> entities.get(id)[next.leaf],
                Comparator.nullsFirst(Comparator.naturalOrder()));
            order = order.thenComparing(next.descends ? values.reversed() : values);
        }
        return entities.keySet().stream().filter(id -> fits(finder, entities.get(id), given)).sorted(order)
            .limit(finder.limit == 0 ? 10 : finder.limit).collect(Collectors.toList());
    }

    private static boolean fits(Finder finder, Integer[] values, List<Integer> given) {
        boolean fits = finder.alternatives.isEmpty();
        int next = 0;
        for (List<Part> parts : finder.alternatives) {
            boolean all = true;
            for (Part part : parts) {
                int after = next + Finder.takes(part.keyword);
                all &= holds(part.keyword, values[part.leaf], given.subList(next, after));
                next = after;
            }
            fits |= all;
        }
        return fits;
    }

    private static boolean holds(int keyword, Integer v, List<Integer> given) {
        if (v == null) {
            return keyword == 7;
        }
        int order = given.isEmpty() ? 0 : v.compareTo(given.get(0));
        switch (keyword) {
            case 0: return order == 0;
            case 1: return order != 0;
            case 2: return order < 0;
            case 3: return order <= 0;
            case 4: return order > 0;
            case 5: return order >= 0;
            case 6: return order >= 0 && v.compareTo(given.get(1)) <= 0;
            case 7: return false;
            case 8: return true;
            case 9: return v != 0;
            default: return v == 0;
        }
    }

    int results() {
        return results.size();
    }

    int result(int k) {
        return k < 0 || k >= results.size() ? 0 : results.get(k);
    }

    long value(int id, int leaf) {
        if (!entities.containsKey(id) || leaf < 0 || leaf >= leaves.size()) {
            return FinderBook.NONE;
        }
        Integer v = entities.get(id)[leaf];
        return v == null ? FinderBook.NULL : v;
    }

    int size() {
        return entities.size();
    }
}
