import java.util.ArrayList;
import java.util.Comparator;
import java.util.List;

/**
 * The document once more, written for plainness with the whole Java library and without regard to
 * objects or speed; RandomRunsTest compares CaptionAlbum with it.
 */
final class Model {
    private static final List<String> RESERVED = List.of(
            "and", "someone", "left", "right", "row", "all", "at", "beside", "between");

    private static final class Person {
        int x;
        int y;
        boolean away;
        int name = -1;
    }

    private static final class Shot {
        int width;
        int height;
        int left;
        int top;
        int right;
        int bottom;
        boolean flipped;
        List<Person> people = new ArrayList<>();

        Shot copy() {
            Shot s = new Shot();
            s.width = width;
            s.height = height;
            s.left = left;
            s.top = top;
            s.right = right;
            s.bottom = bottom;
            s.flipped = flipped;
            for (Person p : people) {
                Person q = new Person();
                q.x = p.x;
                q.y = p.y;
                q.away = p.away;
                q.name = p.name;
                s.people.add(q);
            }
            return s;
        }
    }

    private static final class Told {
        int gap;
        List<String> names = new ArrayList<>();
        List<Shot> shots = new ArrayList<>();
    }

    private record Token(String text, int at) {
    }

    private static final class TextError extends RuntimeException {
        private static final long serialVersionUID = 1;
        final int code;
        final int at;

        TextError(int code, int at) {
            this.code = code;
            this.at = at;
        }
    }

    private final StringBuilder buffer = new StringBuilder();
    private Told told;
    private int error = 0;
    private int errorAt = -1;
    private String written = "";
    private final List<List<Shot>> past = new ArrayList<>();
    private final List<List<Shot>> slots = new ArrayList<>(List.of(List.of(), List.of()));

    private List<Token> tokens = List.of();
    private int next;

    // ---- texts

    public int append(int a, int b, int c, int d, int e) {
        if (buffer.length() > 1180) {
            return -1;
        }
        for (int four : new int[] {a, b, c, d, e}) {
            for (int i = 3; i >= 0; i--) {
                buffer.append((char) (four >>> 8 * i & 255));
            }
        }
        return buffer.length();
    }

    private void tokenize(String text) {
        tokens = new ArrayList<>();
        next = 0;
        int i = 0;
        while (i < text.length()) {
            String rest = text.substring(i);
            String token = rest.replaceFirst("(?s)^([a-z]+|[0-9]+|.).*$", "$1");
            if (!token.equals(" ")) {
                tokens.add(new Token(token, i));
            }
            i += token.length();
        }
        tokens.add(new Token("", text.length()));
    }

    private String peek() {
        return tokens.get(next).text;
    }

    private void fail(int code) {
        throw new TextError(code, tokens.get(next).at);
    }

    private boolean skip(String text) {
        boolean there = peek().equals(text);
        if (there) {
            next++;
        }
        return there;
    }

    private void expect(String text) {
        if (!skip(text)) {
            fail(1);
        }
    }

    private int number(int low, int high) {
        if (!peek().matches("[0-9]{1,4}")) {
            fail(1);
        }
        int value = Integer.parseInt(peek());
        if (value < low || value > high) {
            fail(2);
        }
        return value;
    }

    private String word() {
        if (!peek().matches("[a-z]{1,8}") || RESERVED.contains(peek())) {
            fail(1);
        }
        return peek();
    }

    public int load(int n) {
        if (n < 0 || n > buffer.length()) {
            throw new IndexOutOfBoundsException();
        }
        String text = buffer.substring(0, n);
        buffer.setLength(0);
        error = 0;
        errorAt = -1;
        Told read = new Told();
        try {
            tokenize(text);
            readAlbum(read);
        } catch (TextError e) {
            error = e.code;
            errorAt = e.at;
            throw new IllegalArgumentException();
        }
        told = read;
        past.clear();
        slots.set(0, List.of());
        slots.set(1, List.of());
        return told.shots.size();
    }

    private void readAlbum(Told read) {
        expect("album");
        expect("gap");
        read.gap = number(0, 99);
        next++;
        while (skip(";")) {
            switch (peek()) {
                case "name" -> readName(read);
                case "photo" -> readPhoto(read);
                case "person" -> readPerson(read);
                default -> fail(1);
            }
        }
        if (!peek().isEmpty()) {
            fail(1);
        }
        if (read.shots.isEmpty()) {
            fail(5);
        }
    }

    private void readName(Told read) {
        if (read.names.size() == 20) {
            fail(4);
        }
        next++;
        String first = word();
        next++;
        String name = first + " " + word();
        if (read.names.contains(name)) {
            fail(3);
        }
        next++;
        read.names.add(name);
    }

    private void readPhoto(Told read) {
        if (read.shots.size() == 5) {
            fail(4);
        }
        next++;
        Shot shot = new Shot();
        shot.width = number(1, 999);
        next++;
        shot.height = number(1, 999);
        next++;
        shot.right = shot.width - 1;
        shot.bottom = shot.height - 1;
        read.shots.add(shot);
    }

    private void readPerson(Told read) {
        next++;
        Shot shot = read.shots.get(number(0, read.shots.size() - 1));
        if (shot.people.size() == 12) {
            fail(4);
        }
        next++;
        Person p = new Person();
        p.x = number(0, shot.width - 1);
        next++;
        p.y = number(0, shot.height - 1);
        next++;
        shot.people.add(p);
    }

    public int phrases(int photo, int n) {
        Shot target = shot(photo);
        if (n < 0 || n > buffer.length()) {
            throw new IndexOutOfBoundsException();
        }
        String text = buffer.substring(0, n);
        buffer.setLength(0);
        error = 0;
        errorAt = -1;
        List<Shot> before = copyOfAll();
        int given = 0;
        try {
            tokenize(text);
            do {
                given += phrase(target);
            } while (skip(";"));
            if (!peek().isEmpty()) {
                fail(1);
            }
        } catch (TextError e) {
            error = e.code;
            errorAt = e.at;
            told.shots = before;
            throw new IllegalArgumentException();
        }
        past.add(before);
        return given;
    }

    private int phrase(Shot shot) {
        if (skip("row")) {
            int row = number(0, rowLists(shot).size() - 1);
            next++;
            return items(shot, rowLists(shot).get(row));
        } else if (skip("all")) {
            return items(shot, ordered(shot));
        } else if (skip("at")) {
            return phraseAt(shot);
        } else if (skip("beside")) {
            return phraseBeside(shot);
        }
        expect("between");
        return phraseBetween(shot);
    }

    private int items(Shot shot, List<Integer> line) {
        List<Integer> left = new ArrayList<>(line);
        if (side() > 0) {
            java.util.Collections.reverse(left);
        }
        next++;
        int given = 0;
        do {
            if (peek().equals("someone")) {
                if (left.isEmpty()) {
                    fail(7);
                }
                left.remove(0);
                next++;
                continue;
            }
            List<String> firsts = new ArrayList<>();
            do {
                String first = word();
                if (firsts.size() >= left.size()) {
                    fail(7);
                }
                firsts.add(first);
                next++;
            } while (skip("and"));
            String last = word();
            for (String first : firsts) {
                if (!told.names.contains(first + " " + last)) {
                    fail(6);
                }
            }
            next++;
            for (String first : firsts) {
                name(shot, left.remove(0), told.names.indexOf(first + " " + last));
                given++;
            }
        } while (skip(","));
        return given;
    }

    private int side() {
        if (!peek().equals("left") && !peek().equals("right")) {
            fail(1);
        }
        return peek().equals("left") ? -1 : 1;
    }

    private int fullName() {
        String first = word();
        next++;
        int name = told.names.indexOf(first + " " + word());
        if (name < 0) {
            fail(6);
        }
        return name;
    }

    private int holder(Shot shot) {
        int name = fullName();
        for (int i = 0; i < shot.people.size(); i++) {
            if (shot.people.get(i).name == name && seen(shot, i)) {
                return i;
            }
        }
        fail(6);
        return -1;
    }

    private int phraseAt(Shot shot) {
        int x = number(0, 999);
        next++;
        int y = number(0, 999);
        if (ordered(shot).isEmpty()) {
            fail(7);
        }
        next++;
        int name = fullName();
        next++;
        name(shot, byDistance(shot, x, y).get(0), name);
        return 1;
    }

    private int phraseBeside(Shot shot) {
        int person = holder(shot);
        next++;
        int step = side();
        int found = -1;
        for (List<Integer> row : rowLists(shot)) {
            int place = row.indexOf(person);
            if (place >= 0 && place + step >= 0 && place + step < row.size()) {
                found = row.get(place + step);
            }
        }
        if (found < 0) {
            fail(7);
        }
        next++;
        int name = fullName();
        next++;
        name(shot, found, name);
        return 1;
    }

    private int phraseBetween(Shot shot) {
        int one = holder(shot);
        next++;
        int two = holder(shot);
        int found = -1;
        for (List<Integer> row : rowLists(shot)) {
            for (int i = 1; i + 1 < row.size(); i++) {
                int a = row.get(i - 1);
                int b = row.get(i + 1);
                if (a == one && b == two || a == two && b == one) {
                    found = row.get(i);
                }
            }
        }
        if (found < 0) {
            fail(7);
        }
        next++;
        int name = fullName();
        next++;
        name(shot, found, name);
        return 1;
    }

    private static void name(Shot shot, int person, int name) {
        for (Person p : shot.people) {
            if (p.name == name) {
                p.name = -1;
            }
        }
        shot.people.get(person).name = name;
    }

    public int parseError() {
        return error;
    }

    public int errorPosition() {
        return errorAt;
    }

    public int buffered() {
        return buffer.length();
    }

    // ---- checks

    private void needAlbum() {
        if (told == null) {
            throw new IllegalStateException();
        }
    }

    private static int index(int i, int size) {
        if (i < 0 || i >= size) {
            throw new IndexOutOfBoundsException();
        }
        return i;
    }

    private static void range(int value, int low, int high) {
        if (value < low || value > high) {
            throw new IllegalArgumentException();
        }
    }

    private Shot shot(int photo) {
        needAlbum();
        return told.shots.get(index(photo, told.shots.size()));
    }

    private Person person(int photo, int person) {
        Shot s = shot(photo);
        return s.people.get(index(person, s.people.size()));
    }

    private void needName(int name) {
        needAlbum();
        index(name, told.names.size());
    }

    // ---- pictures

    private static boolean seen(Shot s, int person) {
        Person p = s.people.get(person);
        return !p.away && s.left <= p.x && p.x <= s.right && s.top <= p.y && p.y <= s.bottom;
    }

    private static int sx(Shot s, int person) {
        return s.flipped ? s.right - s.people.get(person).x : s.people.get(person).x - s.left;
    }

    private static int sy(Shot s, int person) {
        return s.people.get(person).y - s.top;
    }

    private static List<Integer> shown(Shot s) {
        List<Integer> found = new ArrayList<>();
        for (int i = 0; i < s.people.size(); i++) {
            if (seen(s, i)) {
                found.add(i);
            }
        }
        return found;
    }

    private static List<Integer> ordered(Shot s) {
        List<Integer> found = shown(s);
        found.sort(Comparator.<Integer>comparingInt(i -> sx(s, i))
                .thenComparing(Comparator.<Integer>comparingInt(i -> sy(s, i)).reversed())
                .thenComparing(i -> i));
        return found;
    }

    private List<List<Integer>> rowLists(Shot s) {
        List<Integer> found = shown(s);
        found.sort(Comparator.<Integer>comparingInt(i -> -sy(s, i)));
        List<List<Integer>> rows = new ArrayList<>();
        int y = 0;
        for (int i : found) {
            if (rows.isEmpty() || y - sy(s, i) > told.gap) {
                rows.add(new ArrayList<>());
            }
            rows.get(rows.size() - 1).add(i);
            y = sy(s, i);
        }
        for (List<Integer> row : rows) {
            row.sort(Comparator.<Integer>comparingInt(i -> sx(s, i)).thenComparing(i -> i));
        }
        return rows;
    }

    private static List<Integer> byDistance(Shot s, int x, int y) {
        List<Integer> found = shown(s);
        found.sort(Comparator.<Integer>comparingInt(i ->
                (sx(s, i) - x) * (sx(s, i) - x) + (sy(s, i) - y) * (sy(s, i) - y))
                .thenComparing(i -> i));
        return found;
    }

    private static int bits(List<Integer> numbers) {
        int set = 0;
        for (int i : numbers) {
            set |= 1 << i;
        }
        return set;
    }

    private static List<Integer> shownNames(Shot s) {
        List<Integer> found = new ArrayList<>();
        for (int i : ordered(s)) {
            if (s.people.get(i).name >= 0) {
                found.add(s.people.get(i).name);
            }
        }
        return found;
    }

    public int photos() {
        return told == null ? 0 : told.shots.size();
    }

    public int people(int photo) {
        return shot(photo).people.size();
    }

    public int frame(int photo, int what) {
        Shot s = shot(photo);
        range(what, 0, 3);
        return List.of(s.left, s.top, s.right, s.bottom).get(what);
    }

    public boolean isFlipped(int photo) {
        return shot(photo).flipped;
    }

    public boolean isIn(int photo, int person) {
        person(photo, person);
        return seen(shot(photo), person);
    }

    public int shownAt(int photo, int person) {
        person(photo, person);
        Shot s = shot(photo);
        return seen(s, person) ? 1000 * sx(s, person) + sy(s, person) : -1;
    }

    public int inPicture(int photo) {
        return bits(shown(shot(photo)));
    }

    public int rows(int photo) {
        return rowLists(shot(photo)).size();
    }

    private List<Integer> row(int photo, int row) {
        List<List<Integer>> rows = rowLists(shot(photo));
        return rows.get(index(row, rows.size()));
    }

    public int rowLength(int photo, int row) {
        return row(photo, row).size();
    }

    public int personAt(int photo, int row, int place) {
        List<Integer> line = row(photo, row);
        return line.get(index(place, line.size()));
    }

    public int rowOf(int photo, int person) {
        person(photo, person);
        List<List<Integer>> rows = rowLists(shot(photo));
        for (int row = 0; row < rows.size(); row++) {
            if (rows.get(row).contains(person)) {
                return row;
            }
        }
        return -1;
    }

    public int placeOf(int photo, int person) {
        int row = rowOf(photo, person);
        return row < 0 ? -1 : row(photo, row).indexOf(person);
    }

    public int inOrder(int photo, int place) {
        List<Integer> all = ordered(shot(photo));
        return all.get(index(place, all.size()));
    }

    public int nearest(int photo, int x, int y, int rank) {
        Shot s = shot(photo);
        index(rank, shown(s).size());
        range(x, 0, 999);
        range(y, 0, 999);
        return byDistance(s, x, y).get(rank);
    }

    // ---- names

    public int names() {
        return told == null ? 0 : told.names.size();
    }

    public int letters(int name) {
        needName(name);
        return told.names.get(name).length() - 1;
    }

    public int nameOf(int photo, int person) {
        return person(photo, person).name;
    }

    public int who(int photo, int name) {
        Shot s = shot(photo);
        needName(name);
        for (int i = 0; i < s.people.size(); i++) {
            if (s.people.get(i).name == name) {
                return i;
            }
        }
        return -1;
    }

    public int photosWith(int name) {
        needName(name);
        int set = 0;
        for (int i = 0; i < told.shots.size(); i++) {
            if (shownNames(told.shots.get(i)).contains(name)) {
                set |= 1 << i;
            }
        }
        return set;
    }

    public int unnamed(int photo) {
        Shot s = shot(photo);
        return shown(s).size() - shownNames(s).size();
    }

    public int mostSeen(int rank) {
        needAlbum();
        index(rank, told.names.size());
        List<Integer> all = new ArrayList<>();
        for (int i = 0; i < told.names.size(); i++) {
            all.add(i);
        }
        all.sort(Comparator.<Integer>comparingInt(i -> -Integer.bitCount(photosWith(i)))
                .thenComparing(i -> told.names.get(i).split(" ")[1])
                .thenComparing(i -> told.names.get(i).split(" ")[0]));
        return all.get(rank);
    }

    private List<Integer> shared(int photo, int other) {
        List<Integer> both = shownNames(shot(photo));
        both.retainAll(shownNames(shot(other)));
        return both;
    }

    public int common(int photo, int other) {
        return bits(shared(photo, other));
    }

    public int inversions(int photo, int other) {
        List<Integer> one = shared(photo, other);
        List<Integer> two = shared(other, photo);
        int found = 0;
        for (int a : one) {
            for (int b : one) {
                if (one.indexOf(a) < one.indexOf(b) && two.indexOf(a) > two.indexOf(b)) {
                    found++;
                }
            }
        }
        return found;
    }

    public boolean isMirrored(int photo, int other) {
        int n = shared(photo, other).size();
        return inversions(photo, other) > n * (n - 1) / 2.0 / 2.0;
    }

    // ---- measures

    private static int groupsOf(Shot s, int distance) {
        List<Integer> left = shown(s);
        int groups = 0;
        while (!left.isEmpty()) {
            groups++;
            List<Integer> todo = new ArrayList<>(List.of(left.remove(0)));
            while (!todo.isEmpty()) {
                int a = todo.remove(0);
                for (int b : List.copyOf(left)) {
                    if (Math.abs(sx(s, a) - sx(s, b)) + Math.abs(sy(s, a) - sy(s, b)) <= distance) {
                        left.remove((Integer) b);
                        todo.add(b);
                    }
                }
            }
        }
        return groups;
    }

    public int groups(int photo, int distance) {
        Shot s = shot(photo);
        range(distance, 0, 1998);
        return groupsOf(s, distance);
    }

    public int linking(int photo) {
        Shot s = shot(photo);
        int distance = 0;
        while (groupsOf(s, distance) > 1) {
            distance++;
        }
        return distance;
    }

    public float spacing(int photo, int row) {
        List<Integer> line = row(photo, row);
        Shot s = shot(photo);
        int last = line.size() - 1;
        return last == 0 ? 0 : (float) (sx(s, line.get(last)) - sx(s, line.get(0))) / (float) last;
    }

    public float aspect(int photo) {
        Shot s = shot(photo);
        return (float) (s.right - s.left + 1) / (float) (s.bottom - s.top + 1);
    }

    private static void rectangle(Shot s, int x1, int y1, int x2, int y2) {
        range(x1, 0, s.right - s.left);
        range(x2, x1, s.right - s.left);
        range(y1, 0, s.bottom - s.top);
        range(y2, y1, s.bottom - s.top);
    }

    private static void cut(Shot s, int x1, int y1, int x2, int y2) {
        int left = s.left;
        int right = s.right;
        s.left = s.flipped ? right - x2 : left + x1;
        s.right = s.flipped ? right - x1 : left + x2;
        s.bottom = s.top + y2;
        s.top = s.top + y1;
    }

    public int keeps(int photo, int x1, int y1, int x2, int y2) {
        Shot s = shot(photo).copy();
        rectangle(s, x1, y1, x2, y2);
        cut(s, x1, y1, x2, y2);
        return bits(shown(s));
    }

    public int tightest(int photo, int set, int what) {
        Shot s = shot(photo);
        range(what, 0, 3);
        if (set == 0 || (set | bits(shown(s))) != bits(shown(s))) {
            throw new IllegalArgumentException();
        }
        List<Integer> values = new ArrayList<>();
        for (int i : shown(s)) {
            if ((set & 1 << i) != 0) {
                values.add(what % 2 == 0 ? sx(s, i) : sy(s, i));
            }
        }
        values.sort(null);
        return values.get(what < 2 ? 0 : values.size() - 1);
    }

    public int window(int photo, int width) {
        Shot s = shot(photo);
        range(width, 1, s.right - s.left + 1);
        int best = -1;
        long most = -1;
        for (int x = 0; x + width - 1 <= s.right - s.left; x++) {
            int from = x;
            long found = shown(s).stream()
                    .filter(i -> from <= sx(s, i) && sx(s, i) <= from + width - 1).count();
            if (found > most) {
                best = x;
                most = found;
            }
        }
        return best;
    }

    // ---- captions

    public int write(int photo) {
        Shot s = shot(photo);
        List<String> parts = new ArrayList<>();
        for (List<Integer> row : rowLists(s)) {
            List<String> items = new ArrayList<>();
            for (int i = 0; i < row.size();) {
                String last = lastOf(s, row.get(i));
                List<String> firsts = new ArrayList<>();
                for (; i < row.size() && lastOf(s, row.get(i)).equals(last); i++) {
                    int name = s.people.get(row.get(i)).name;
                    firsts.add(name < 0 ? "" : told.names.get(name).split(" ")[0]);
                }
                String nameless = firsts.size() == 1 ? "someone" : firsts.size() + " others";
                items.add(last.isEmpty() ? nameless : String.join(" and ", firsts) + " " + last);
            }
            parts.add("row " + parts.size() + ": " + String.join(", ", items));
        }
        written = parts.isEmpty() ? "nobody" : String.join("; ", parts);
        return written.length();
    }

    private String lastOf(Shot s, int person) {
        int name = s.people.get(person).name;
        return name < 0 ? "" : told.names.get(name).split(" ")[1];
    }

    public int writeChange(int photo) {
        Shot now = shot(photo);
        Shot before = shot(photo - 1);
        List<String> parts = new ArrayList<>();
        String come = listed(shownNames(now), shownNames(before));
        String gone = listed(shownNames(before), shownNames(now));
        if (!come.isEmpty()) {
            parts.add("with " + come);
        }
        if (!gone.isEmpty()) {
            parts.add("without " + gone);
        }
        written = parts.isEmpty() ? "as before" : String.join("; ", parts);
        return written.length();
    }

    private String listed(List<Integer> these, List<Integer> butNot) {
        List<Integer> left = new ArrayList<>(these);
        left.removeAll(butNot);
        left.sort(null);
        List<String> words = new ArrayList<>();
        for (int name : left) {
            words.add(told.names.get(name));
        }
        return String.join(", ", words);
    }

    public int writtenByte(int i) {
        return written.charAt(index(i, written.length()));
    }

    // ---- changes

    private List<Shot> copyOfAll() {
        List<Shot> all = new ArrayList<>();
        for (Shot s : told.shots) {
            all.add(s.copy());
        }
        return all;
    }

    private int together() {
        int found = 0;
        for (Shot s : told.shots) {
            found += shown(s).size();
        }
        return found;
    }

    public int crop(int photo, int x1, int y1, int x2, int y2) {
        Shot s = shot(photo);
        rectangle(s, x1, y1, x2, y2);
        past.add(copyOfAll());
        int before = shown(s).size();
        cut(s, x1, y1, x2, y2);
        return before - shown(s).size();
    }

    public boolean flip(int photo) {
        Shot s = shot(photo);
        past.add(copyOfAll());
        s.flipped = !s.flipped;
        return s.flipped;
    }

    public int uncrop(int photo) {
        Shot s = shot(photo);
        past.add(copyOfAll());
        int before = shown(s).size();
        s.left = 0;
        s.top = 0;
        s.right = s.width - 1;
        s.bottom = s.height - 1;
        return shown(s).size() - before;
    }

    public boolean retouch(int photo, int person, boolean away) {
        Person p = person(photo, person);
        past.add(copyOfAll());
        boolean before = p.away;
        p.away = away;
        return before;
    }

    public int addPerson(int photo, int x, int y) {
        Shot s = shot(photo);
        if (s.people.size() == 12) {
            throw new IllegalStateException();
        }
        range(x, 0, s.right - s.left);
        range(y, 0, s.bottom - s.top);
        past.add(copyOfAll());
        Person p = new Person();
        p.x = s.flipped ? s.right - x : x + s.left;
        p.y = y + s.top;
        s.people.add(p);
        return s.people.size() - 1;
    }

    public int giveName(int photo, int person, int name) {
        Person p = person(photo, person);
        if (name != -1) {
            needName(name);
        }
        past.add(copyOfAll());
        int before = p.name;
        name(shot(photo), person, name);
        return before;
    }

    public int copyNames(int photo, int other) {
        Shot s = shot(photo);
        Shot o = shot(other);
        if (photo == other) {
            throw new IllegalArgumentException();
        }
        past.add(copyOfAll());
        int given = 0;
        for (int row = 0; row < rowLists(s).size(); row++) {
            for (int place = 0; place < rowLists(s).get(row).size(); place++) {
                if (row < rowLists(o).size() && place < rowLists(o).get(row).size()) {
                    int name = o.people.get(rowLists(o).get(row).get(place)).name;
                    if (name >= 0) {
                        name(s, rowLists(s).get(row).get(place), name);
                        given++;
                    }
                }
            }
        }
        return given;
    }

    public int undo() {
        if (undoable() == 0) {
            throw new IllegalStateException();
        }
        told.shots = past.remove(past.size() - 1);
        return undoable();
    }

    public int undoable() {
        while (past.size() > 6) {
            past.remove(0);
        }
        return past.size();
    }

    public int save(int slot) {
        needAlbum();
        slots.set(index(slot, 2), copyOfAll());
        return together();
    }

    public int restore(int slot) {
        if (slots.get(index(slot, 2)).isEmpty()) {
            throw new IllegalStateException();
        }
        told.shots = slots.get(slot);
        slots.set(slot, copyOfAll());
        past.clear();
        return together();
    }
}
