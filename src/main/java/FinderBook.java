import java.util.Arrays;

/** A store of entities that is asked by the names of its finders; see README.md. */
public final class FinderBook {
    public static final long NULL = 3000000000L;
    public static final long NONE = 4000000000L;

    private static final int MAX_FINDERS = 8;
    private static final int MAX_ARGUMENTS = 12;
    private static final int FIND = 0;
    private static final int COUNT = 1;
    private static final int EXISTS = 2;
    private static final int DELETE = 3;

    private final Draft draft;
    private final LeafList leaves;
    private final FinderReader reader;
    private final Finder[] finders;
    private int finderCount;
    private final Store store;
    private final long[] form;
    private final int[] arguments;
    private int argumentCount;
    private final Finding finding;
    private final int[] resultIds;
    private int resultCount;

    public FinderBook() {
        draft = new Draft();
        leaves = new LeafList();
        reader = new FinderReader(draft, leaves);
        // One row more than there may be finders: a text is read into the row behind the last
        // finder, also when it is to be refused because there are enough of them.
        finders = new Finder[MAX_FINDERS + 1];
        for (int i = 0; i < finders.length; i++) {
            finders[i] = new Finder();
        }
        store = new Store();
        form = new long[LeafList.MAX_LEAVES];
        Arrays.fill(form, NULL);
        arguments = new int[MAX_ARGUMENTS];
        finding = new Finding();
        resultIds = new int[Store.MAX_ENTITIES];
    }

    public boolean type(char c) {
        return draft.append(c);
    }

    public void scrap() {
        draft.clear();
    }

    public int declare() {
        if (!draft.isPath()) {
            return -1;
        }
        if (leaves.clashWith(draft)) {
            return -2;
        }
        int leaf = leaves.add(draft);
        if (leaf < 0) {
            return -3;
        }
        draft.clear();
        return leaf;
    }

    public int names() {
        return leaves.named(draft, 0, draft.length());
    }

    public int define(boolean single) {
        Finder finder = finders[finderCount];
        int fault = reader.read(finder);
        if (fault < 0) {
            return fault;
        }
        if (single && finder.subject != FIND) {
            return -6;
        }
        if (finderCount >= MAX_FINDERS) {
            return -7;
        }
        finder.single = single;
        draft.clear();
        finderCount++;
        return finderCount - 1;
    }

    public int shape(int f, int which) {
        return isFinder(f) ? finders[f].measure(which) : -1;
    }

    public int part(int f, int k) {
        return isFinder(f) ? finders[f].partCode(k) : -1;
    }

    public boolean fill(int leaf, int v) {
        return enter(leaf, v);
    }

    public boolean blank(int leaf) {
        return enter(leaf, NULL);
    }

    public boolean save(int id) {
        return store.put(id, form);
    }

    public boolean remove(int id) {
        return store.drop(id);
    }

    public boolean arg(int v) {
        if (argumentCount >= MAX_ARGUMENTS) {
            return false;
        }
        arguments[argumentCount] = v;
        argumentCount++;
        return true;
    }

    public int run(int f) {
        if (!isFinder(f)) {
            return -1;
        }
        Finder finder = finders[f];
        int given = argumentCount;
        argumentCount = 0;
        if (given != finder.argumentsTaken) {
            return -2;
        }
        resultCount = 0;
        finding.gather(store, finder, arguments);
        switch (finder.subject) {
            case COUNT:
                return finding.count;
            case EXISTS:
                return finding.count > 0 ? 1 : 0;
            case DELETE:
                return deleteFinding();
            default:
                return keepFinding(finder.single);
        }
    }

    public int results() {
        return resultCount;
    }

    public int result(int k) {
        return k >= 0 && k < resultCount ? resultIds[k] : 0;
    }

    public long value(int id, int leaf) {
        int place = store.placeOf(id);
        return place >= 0 && leaves.has(leaf) ? store.at(place).values[leaf] : NONE;
    }

    public int size() {
        return store.count();
    }

    private boolean isFinder(int f) {
        return f >= 0 && f < finderCount;
    }

    private boolean enter(int leaf, long v) {
        if (!leaves.has(leaf)) {
            return false;
        }
        form[leaf] = v;
        return true;
    }

    private int deleteFinding() {
        for (int i = 0; i < finding.count; i++) {
            store.drop(finding.entities[i].id);
        }
        return finding.count;
    }

    private int keepFinding(boolean single) {
        if (single && finding.count > 1) {
            return -3;
        }
        for (int i = 0; i < finding.count; i++) {
            resultIds[i] = finding.entities[i].id;
        }
        resultCount = finding.count;
        return resultCount;
    }

    private static boolean isCapital(char c) {
        return c >= 'A' && c <= 'Z';
    }

    private static boolean isSmall(char c) {
        return c >= 'a' && c <= 'z';
    }

    private static boolean isFigure(char c) {
        return c >= '0' && c <= '9';
    }

    private static boolean isLetterOrFigure(char c) {
        return isCapital(c) || isSmall(c) || isFigure(c);
    }

    /** The text that is being typed; pieces of it are told by where they begin and end. */
    private static final class Draft {
        private static final int MAX_LENGTH = 80;
        private static final int MAX_NAME = 12;
        private static final char NOTHING = 0;

        private final char[] characters = new char[MAX_LENGTH];
        private int length;

        boolean append(char c) {
            boolean allowed = isLetterOrFigure(c) || c == '_' || c == '.';
            if (!allowed || length >= MAX_LENGTH) {
                return false;
            }
            characters[length] = c;
            length++;
            return true;
        }

        void clear() {
            length = 0;
        }

        int length() {
            return length;
        }

        // Beside the text stands a character that no word has, so that callers may look one further.
        char at(int place) {
            return place >= 0 && place < length ? characters[place] : NOTHING;
        }

        boolean isPath() {
            int names = 1;
            int inName = 0;
            for (int i = 0; i < length; i++) {
                char c = characters[i];
                if (c == '.' && inName > 0) {
                    names++;
                    inName = 0;
                } else if (inName < MAX_NAME && (inName == 0 ? isSmall(c) : isLetterOrFigure(c))) {
                    inName++;
                } else {
                    return false;
                }
            }
            return inName > 0 && names <= Leaf.MAX_NAMES;
        }

        boolean startsWith(String word, int from, int end) {
            if (from < 0 || end > length || word.length() > end - from) {
                return false;
            }
            for (int i = 0; i < word.length(); i++) {
                if (characters[from + i] != word.charAt(i)) {
                    return false;
                }
            }
            return true;
        }

        boolean endsWith(String word, int from, int end) {
            int start = end - word.length();
            return start >= from && startsWith(word, start, end);
        }

        int placeOf(String word, int from, int end) {
            for (int i = from; i < end; i++) {
                if (startsWith(word, i, end)) {
                    return i;
                }
            }
            return end;
        }

        boolean isCutAt(String word, int place, int end) {
            int behind = place + word.length();
            return behind < end && isCapital(at(behind)) && startsWith(word, place, end);
        }
    }

    /** A declared path. */
    private static final class Leaf {
        private static final int MAX_NAMES = 3;
        private static final int MAX_PATH = MAX_NAMES * Draft.MAX_NAME + MAX_NAMES - 1;

        private final char[] path = new char[MAX_PATH];
        private int length;
        private int firstName;
        private int secondName;

        void setPath(Draft text) {
            length = Math.min(text.length(), MAX_PATH);
            for (int i = 0; i < length; i++) {
                path[i] = text.at(i);
            }
            firstName = nameLength(0);
            secondName = nameLength(firstName + 1);
        }

        private int nameLength(int start) {
            int end = start;
            while (end < length && path[end] != '.') {
                end++;
            }
            return end - start;
        }

        boolean clashesWith(Draft text) {
            int common = Math.min(length, text.length());
            for (int i = 0; i < common; i++) {
                if (path[i] != text.at(i)) {
                    return false;
                }
            }
            boolean endsName = common == length || path[common] == '.';
            return endsName && (common == text.length() || text.at(common) == '.');
        }

        boolean isSpelledBy(char[] text, int from, int end) {
            if (from < 0 || end > text.length) {
                return false;
            }
            int place = from;
            boolean startsName = true;
            for (int i = 0; i < length; i++) {
                char c = path[i];
                if (c == '.') {
                    startsName = true;
                    // No name has a line in it, so a line here can only be the one between names.
                    place += place < end && text[place] == '_' ? 1 : 0;
                } else {
                    char wanted = startsName ? (char) (c - 'a' + 'A') : c;
                    if (place >= end || text[place] != wanted) {
                        return false;
                    }
                    startsName = false;
                    place++;
                }
            }
            return place == end;
        }

        boolean goesBefore(Leaf other) {
            if (firstName != other.firstName) {
                return firstName > other.firstName;
            }
            return secondName > other.secondName;
        }
    }

    /** The leaves in the order in which they were declared. */
    private static final class LeafList {
        private static final int MAX_LEAVES = 8;

        private final Leaf[] leaves = new Leaf[MAX_LEAVES];
        private int count;

        LeafList() {
            for (int i = 0; i < MAX_LEAVES; i++) {
                leaves[i] = new Leaf();
            }
        }

        boolean has(int leaf) {
            return leaf >= 0 && leaf < count;
        }

        boolean clashWith(Draft text) {
            for (int i = 0; i < count; i++) {
                if (leaves[i].clashesWith(text)) {
                    return true;
                }
            }
            return false;
        }

        int add(Draft text) {
            if (count >= MAX_LEAVES) {
                return -1;
            }
            leaves[count].setPath(text);
            count++;
            return count - 1;
        }

        int named(Draft text, int from, int end) {
            int best = -1;
            for (int i = 0; i < count; i++) {
                if (leaves[i].isSpelledBy(text.characters, from, end)
                        && (best < 0 || leaves[i].goesBefore(leaves[best]))) {
                    best = i;
                }
            }
            return best;
        }
    }

    /** What the keywords are called, take and mean. */
    private static final class Keyword {
        private static final int EQUAL = 0;
        private static final int BETWEEN = 6;
        private static final int IS_NULL = 7;
        private static final int LAST = 10;
        private static final String IS = "Is";
        private static final String EQUALS = "Equals";

        private static String word(int keyword) {
            switch (keyword) {
                case 1: return "Not";
                case 2: return "LessThan";
                case 3: return "LessThanEqual";
                case 4: return "GreaterThan";
                case 5: return "GreaterThanEqual";
                case BETWEEN: return "Between";
                case IS_NULL: return "Null";
                case 8: return "NotNull";
                case 9: return "True";
                case LAST: return "False";
                default: return "";
            }
        }

        /** The keyword that the whole piece is, or -1. */
        static int numberOf(Draft text, int from, int end) {
            // Equals is the one word that may not have Is before it.
            if (end - from == EQUALS.length() && text.startsWith(EQUALS, from, end)) {
                return EQUAL;
            }
            int start = text.startsWith(IS, from, end) ? from + IS.length() : from;
            for (int keyword = EQUAL; keyword <= LAST; keyword++) {
                String word = word(keyword);
                if (end - start == word.length() && text.startsWith(word, start, end)) {
                    return keyword;
                }
            }
            return -1;
        }

        static int argumentsTaken(int keyword) {
            if (keyword == BETWEEN) {
                return 2;
            }
            return keyword < BETWEEN ? 1 : 0;
        }

        static boolean holds(int keyword, long v, int a, int b) {
            if (v == NULL) {
                return keyword == IS_NULL;
            }
            switch (keyword) {
                case EQUAL: return v == a;
                case 1: return v != a;
                case 2: return v < a;
                case 3: return v <= a;
                case 4: return v > a;
                case 5: return v >= a;
                case BETWEEN: return a <= v && v <= b;
                case 8: return true;
                case 9: return v != 0;
                case LAST: return v == 0;
                default: return false;
            }
        }
    }

    /** Reads the draft as the text of a finder. */
    private static final class FinderReader {
        private static final int MAX_FIGURES = 3;
        private static final String OR = "Or";
        private static final String AND = "And";
        private static final String BY = "By";
        private static final String ORDER_BY = "OrderBy";
        private static final String ASCENDING = "Asc";
        private static final String DESCENDING = "Desc";

        private final Draft draft;
        private final LeafList leaves;
        private int place;

        FinderReader(Draft draft, LeafList leaves) {
            this.draft = draft;
            this.leaves = leaves;
        }

        /** 0, or the number of the first thing that is wrong, which leaves a row of no use. */
        int read(Finder finder) {
            finder.clear();
            place = 0;
            if (!readSubject(finder)) {
                return -1;
            }
            boolean limitIsGood = readLimit(finder);
            if (!skip(BY)) {
                return -1;
            }
            if (!limitIsGood) {
                return -2;
            }
            int end = draft.length();
            int conditionEnd = draft.placeOf(ORDER_BY, place, end);
            if (!readCondition(finder, place, conditionEnd)) {
                return -3;
            }
            if (conditionEnd < end && !readOrders(finder, conditionEnd + ORDER_BY.length(), end)) {
                return -4;
            }
            return finder.isTooLong() ? -5 : 0;
        }

        private boolean skip(String word) {
            if (!draft.startsWith(word, place, draft.length())) {
                return false;
            }
            place += word.length();
            return true;
        }

        private boolean readSubject(Finder finder) {
            for (int subject = FIND; subject <= DELETE; subject++) {
                if (skip(subjectWord(subject))) {
                    finder.subject = subject;
                    return true;
                }
            }
            return false;
        }

        private static String subjectWord(int subject) {
            switch (subject) {
                case COUNT: return "count";
                case EXISTS: return "exists";
                case DELETE: return "delete";
                default: return "find";
            }
        }

        private boolean readLimit(Finder finder) {
            if (!skip("Top") && !skip("First")) {
                return true;
            }
            int start = place;
            int number = 0;
            while (place < draft.length() && isFigure(draft.at(place))) {
                // More figures are refused anyway, and could be too many for an int.
                if (place - start < MAX_FIGURES) {
                    number = number * 10 + draft.at(place) - '0';
                }
                place++;
            }
            finder.limit = place == start ? 1 : number;
            return place - start <= MAX_FIGURES && finder.limit > 0;
        }

        private boolean readCondition(Finder finder, int from, int end) {
            int start = from;
            for (int cut = from; cut < end; cut++) {
                if (draft.isCutAt(OR, cut, end)) {
                    if (!readAlternative(finder, start, cut)) {
                        return false;
                    }
                    start = cut + OR.length();
                }
            }
            return from == end || readAlternative(finder, start, end);
        }

        private boolean readAlternative(Finder finder, int from, int end) {
            finder.alternatives++;
            int start = from;
            for (int cut = from; cut < end; cut++) {
                if (draft.isCutAt(AND, cut, end)) {
                    if (!readPart(finder, start, cut)) {
                        return false;
                    }
                    start = cut + AND.length();
                }
            }
            return readPart(finder, start, end);
        }

        // The longest keyword is the one with the shortest leaf's name before it.
        private boolean readPart(Finder finder, int from, int end) {
            for (int cut = from; cut <= end; cut++) {
                int keyword = Keyword.numberOf(draft, cut, end);
                int leaf = keyword < 0 ? -1 : leaves.named(draft, from, cut);
                if (leaf >= 0) {
                    finder.addPart(leaf, keyword);
                    return true;
                }
            }
            return false;
        }

        private boolean readOrders(Finder finder, int from, int end) {
            int start = from;
            for (int cut = from; cut < end; cut++) {
                if (isCapital(draft.at(cut)) && endsWithDirection(start, cut)) {
                    if (!readOrder(finder, start, cut)) {
                        return false;
                    }
                    start = cut;
                }
            }
            return readOrder(finder, start, end);
        }

        private boolean endsWithDirection(int from, int end) {
            return draft.endsWith(ASCENDING, from, end) || draft.endsWith(DESCENDING, from, end);
        }

        private boolean readOrder(Finder finder, int from, int end) {
            boolean descending = draft.endsWith(DESCENDING, from, end);
            int nameEnd = end;
            if (descending) {
                nameEnd -= DESCENDING.length();
            } else if (draft.endsWith(ASCENDING, from, end)) {
                nameEnd -= ASCENDING.length();
            }
            int leaf = leaves.named(draft, from, nameEnd);
            if (leaf < 0) {
                return false;
            }
            finder.addOrder(leaf, descending);
            return true;
        }
    }

    /** What a finder's text says, with leaves told by their numbers. */
    private static final class Finder {
        private static final int MAX_PARTS = 6;
        private static final int MAX_ORDERS = 3;

        private int subject;
        private int limit;
        private boolean single;
        private int alternatives;
        private int parts;
        private int argumentsTaken;
        private int orders;
        private final int[] partLeaf = new int[MAX_PARTS];
        private final int[] partKeyword = new int[MAX_PARTS];
        private final int[] partAlternative = new int[MAX_PARTS];
        private final int[] orderLeaf = new int[MAX_ORDERS];
        private final boolean[] orderDescends = new boolean[MAX_ORDERS];

        void clear() {
            subject = FIND;
            limit = 0;
            single = false;
            alternatives = 0;
            parts = 0;
            argumentsTaken = 0;
            orders = 0;
        }

        // What is too much is counted but not kept: what stands behind it in the text may be
        // wrong in a way that is told first.
        void addPart(int leaf, int keyword) {
            if (parts < MAX_PARTS) {
                partLeaf[parts] = leaf;
                partKeyword[parts] = keyword;
                partAlternative[parts] = alternatives;
            }
            parts++;
            argumentsTaken += Keyword.argumentsTaken(keyword);
        }

        void addOrder(int leaf, boolean descends) {
            if (orders < MAX_ORDERS) {
                orderLeaf[orders] = leaf;
                orderDescends[orders] = descends;
            }
            orders++;
        }

        boolean isTooLong() {
            return parts > MAX_PARTS || orders > MAX_ORDERS;
        }

        int measure(int which) {
            switch (which) {
                case 0: return subject;
                case 1: return limit;
                case 2: return alternatives;
                case 3: return parts;
                case 4: return argumentsTaken;
                case 5: return orders;
                default: return -1;
            }
        }

        int partCode(int k) {
            return k >= 0 && k < parts && k < MAX_PARTS ? 16 * partLeaf[k] + partKeyword[k] : -1;
        }

        boolean fits(Entity entity, int[] arguments) {
            boolean allHold = true;
            int next = 0;
            for (int k = 0; k < parts && k < MAX_PARTS; k++) {
                if (k > 0 && partAlternative[k] != partAlternative[k - 1]) {
                    if (allHold) {
                        return true;
                    }
                    allHold = true;
                }
                int a = argumentAt(arguments, next);
                int b = argumentAt(arguments, next + 1);
                allHold = allHold && Keyword.holds(partKeyword[k], entity.values[partLeaf[k]], a, b);
                next += Keyword.argumentsTaken(partKeyword[k]);
            }
            return allHold;
        }

        // A part is handed two arguments even if it takes fewer, so the place may be behind the last.
        private static int argumentAt(int[] arguments, int place) {
            return place < arguments.length ? arguments[place] : 0;
        }

        boolean putsBefore(Entity left, Entity right) {
            for (int i = 0; i < orders && i < MAX_ORDERS; i++) {
                long leftKey = left.sortKey(orderLeaf[i]);
                long rightKey = right.sortKey(orderLeaf[i]);
                if (leftKey != rightKey) {
                    return orderDescends[i] ? leftKey > rightKey : leftKey < rightKey;
                }
            }
            return false;
        }
    }

    /** An id with a value for each leaf; leaves that are not yet declared have null. */
    private static final class Entity {
        private int id;
        private final long[] values = new long[LeafList.MAX_LEAVES];

        long sortKey(int leaf) {
            return values[leaf] == NULL ? Long.MIN_VALUE : values[leaf];
        }
    }

    /** The entities as they stand. */
    private static final class Store {
        private static final int MAX_ENTITIES = 10;
        private static final int MAX_ID = 9999;

        // The rows behind the last entity are those that are free.
        private final Entity[] rows = new Entity[MAX_ENTITIES];
        private int count;

        Store() {
            for (int i = 0; i < MAX_ENTITIES; i++) {
                rows[i] = new Entity();
            }
        }

        int count() {
            return count;
        }

        Entity at(int place) {
            return rows[place];
        }

        int placeOf(int id) {
            for (int i = 0; i < count; i++) {
                if (rows[i].id == id) {
                    return i;
                }
            }
            return -1;
        }

        boolean put(int id, long[] values) {
            if (id < 1 || id > MAX_ID) {
                return false;
            }
            int place = placeOf(id);
            if (place < 0) {
                if (count >= MAX_ENTITIES) {
                    return false;
                }
                place = count;
                count++;
            }
            rows[place].id = id;
            System.arraycopy(values, 0, rows[place].values, 0, values.length);
            return true;
        }

        boolean drop(int id) {
            int place = placeOf(id);
            if (place < 0) {
                return false;
            }
            Entity dropped = rows[place];
            count--;
            for (int i = place; i < count; i++) {
                rows[i] = rows[i + 1];
            }
            rows[count] = dropped;
            return true;
        }
    }

    /** The entities that the latest run took, in the finder's order. */
    private static final class Finding {
        private final Entity[] entities = new Entity[Store.MAX_ENTITIES];
        private int count;

        void gather(Store store, Finder finder, int[] arguments) {
            count = 0;
            for (int i = 0; i < store.count(); i++) {
                Entity entity = store.at(i);
                if (finder.fits(entity, arguments)) {
                    insert(entity, finder);
                }
            }
            if (finder.limit > 0 && finder.limit < count) {
                count = finder.limit;
            }
        }

        // Goes behind its equals, for entities come in the order in which they stand.
        private void insert(Entity entity, Finder finder) {
            int place = count;
            while (place > 0 && finder.putsBefore(entity, entities[place - 1])) {
                entities[place] = entities[place - 1];
                place--;
            }
            entities[place] = entity;
            count++;
        }
    }
}
