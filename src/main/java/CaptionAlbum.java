/**
 * A resolver of photo captions: people are named by their places in the picture, and the names
 * stay with them when the picture is cropped, flipped or retouched later.
 */
public final class CaptionAlbum {
    public static final int NONE = -1;

    private static final int MAX_BYTES = 1200;
    private static final int BYTES_AN_APPEND = 20;
    private static final int MAX_LETTERS = 8;
    private static final int LETTER_BITS = 5;
    private static final int LETTER_MASK = 31;
    private static final int MAX_DIGITS = 4;

    private static final int MAX_GAP = 99;
    private static final int MAX_SIDE = 999;
    private static final int MAX_NAMES = 20;
    private static final int MAX_PHOTOS = 5;
    private static final int MAX_PEOPLE = 12;
    private static final int MAX_DISTANCE = 1998;
    private static final int MAX_CHANGES = 6;
    private static final int SLOTS = 2;
    /** One more than the greatest shown x or y. */
    private static final int SPAN = 1000;

    private static final int WRONG_TOKEN = 1;
    private static final int OUT_OF_BOUNDS = 2;
    private static final int NAME_TOLD_TWICE = 3;
    private static final int TOO_MANY = 4;
    private static final int NO_PHOTO = 5;
    private static final int UNKNOWN_NAME = 6;
    private static final int NO_PERSON = 7;

    private final Input input = new Input();
    private Album album = new Album();
    private Album spare = new Album();
    private final Photo draft = new Photo();
    private final Picture picture = new Picture();
    private final Picture otherPicture = new Picture();
    private final History history = new History();
    private final State[] saved = new State[SLOTS];
    private final CaptionWriter writer = new CaptionWriter();
    private final int[] timesSeen = new int[MAX_NAMES];

    public CaptionAlbum() {
        for (int slot = 0; slot < SLOTS; slot++) {
            saved[slot] = new State();
        }
    }

    // ---- input

    public int append(int a, int b, int c, int d, int e) {
        if (input.stored + BYTES_AN_APPEND > MAX_BYTES) {
            return NONE;
        }
        input.store(a);
        input.store(b);
        input.store(c);
        input.store(d);
        input.store(e);
        return input.stored;
    }

    public int load(int n) throws IndexOutOfBoundsException, IllegalArgumentException {
        checkTextLength(n);
        input.begin(n);
        spare.read(input);
        Album previous = album;
        album = spare;
        spare = previous;
        history.clear();
        for (int slot = 0; slot < SLOTS; slot++) {
            saved[slot].clear();
        }
        return album.state.count;
    }

    public int phrases(int photo, int n)
            throws IllegalStateException, IndexOutOfBoundsException, IllegalArgumentException {
        Photo target = photoAt(photo);
        checkTextLength(n);
        input.begin(n);
        // A draft takes the names, for a later phrase may have an error.
        draft.copyFrom(target);
        picture.arrange(draft, album.gap);
        PhraseReader reader = new PhraseReader(input, album.names, draft, picture);
        int given = reader.carryOut();
        history.record(album.state);
        target.copyFrom(draft);
        return given;
    }

    public int parseError() {
        return input.errorCode;
    }

    public int errorPosition() {
        return input.errorStart;
    }

    public int buffered() {
        return input.stored;
    }

    // ---- pictures

    public int photos() {
        return album.state.count;
    }

    public int people(int photo) throws IllegalStateException, IndexOutOfBoundsException {
        return photoAt(photo).count;
    }

    public int frame(int photo, int what)
            throws IllegalStateException, IndexOutOfBoundsException, IllegalArgumentException {
        Photo asked = photoAt(photo);
        switch (what) {
            case 0:
                return asked.left;
            case 1:
                return asked.top;
            case 2:
                return asked.right;
            case 3:
                return asked.bottom;
            default:
                throw new IllegalArgumentException("no such side of the frame");
        }
    }

    public boolean isFlipped(int photo) throws IllegalStateException, IndexOutOfBoundsException {
        return photoAt(photo).flipped;
    }

    public boolean isIn(int photo, int person)
            throws IllegalStateException, IndexOutOfBoundsException {
        return photoWith(photo, person).shows(person);
    }

    public int shownAt(int photo, int person)
            throws IllegalStateException, IndexOutOfBoundsException {
        Photo asked = photoWith(photo, person);
        if (!asked.shows(person)) {
            return NONE;
        }
        return SPAN * asked.shownX(person) + asked.shownY(person);
    }

    public int inPicture(int photo) throws IllegalStateException, IndexOutOfBoundsException {
        return photoAt(photo).shownSet();
    }

    public int rows(int photo) throws IllegalStateException, IndexOutOfBoundsException {
        return arranged(photo).rowCount;
    }

    public int rowLength(int photo, int row)
            throws IllegalStateException, IndexOutOfBoundsException {
        return arrangedWithRow(photo, row).lengthOfRow(row);
    }

    public int personAt(int photo, int row, int place)
            throws IllegalStateException, IndexOutOfBoundsException {
        Picture asked = arrangedWithRow(photo, row);
        if (place < 0 || place >= asked.lengthOfRow(row)) {
            throw new IndexOutOfBoundsException("no such place");
        }
        return asked.inRow(row, place);
    }

    public int rowOf(int photo, int person)
            throws IllegalStateException, IndexOutOfBoundsException {
        photoWith(photo, person);
        return arranged(photo).rowOfPerson[person];
    }

    public int placeOf(int photo, int person)
            throws IllegalStateException, IndexOutOfBoundsException {
        photoWith(photo, person);
        return arranged(photo).placeOfPerson[person];
    }

    public int inOrder(int photo, int place)
            throws IllegalStateException, IndexOutOfBoundsException {
        Picture asked = arranged(photo);
        if (place < 0 || place >= asked.count) {
            throw new IndexOutOfBoundsException("no such place");
        }
        return asked.order[place];
    }

    public int nearest(int photo, int x, int y, int rank)
            throws IllegalStateException, IndexOutOfBoundsException, IllegalArgumentException {
        Picture asked = arranged(photo);
        if (rank < 0 || rank >= asked.count) {
            throw new IndexOutOfBoundsException("no such rank");
        }
        checkRange(x, 0, MAX_SIDE);
        checkRange(y, 0, MAX_SIDE);
        return asked.byDistance(x, y, rank);
    }

    // ---- names

    public int names() {
        return album.names.count;
    }

    public int letters(int name) throws IllegalStateException, IndexOutOfBoundsException {
        checkName(name);
        Names told = album.names;
        return Names.lengthOf(told.first[name]) + Names.lengthOf(told.last[name]);
    }

    public int nameOf(int photo, int person)
            throws IllegalStateException, IndexOutOfBoundsException {
        return photoWith(photo, person).nameOfPerson[person];
    }

    public int who(int photo, int name) throws IllegalStateException, IndexOutOfBoundsException {
        Photo asked = photoAt(photo);
        checkName(name);
        return asked.holderOf(name);
    }

    public int photosWith(int name) throws IllegalStateException, IndexOutOfBoundsException {
        checkName(name);
        int found = 0;
        for (int i = 0; i < album.state.count; i++) {
            if ((album.state.photos[i].nameSet() >> name & 1) == 1) {
                found |= 1 << i;
            }
        }
        return found;
    }

    public int unnamed(int photo) throws IllegalStateException, IndexOutOfBoundsException {
        Photo asked = photoAt(photo);
        return Integer.bitCount(asked.shownSet()) - Integer.bitCount(asked.nameSet());
    }

    public int mostSeen(int rank) throws IllegalStateException, IndexOutOfBoundsException {
        checkAlbum();
        if (rank < 0 || rank >= album.names.count) {
            throw new IndexOutOfBoundsException("no such rank");
        }
        countTimesSeen();
        for (int name = 0; name < album.names.count; name++) {
            if (namesSeenBefore(name) == rank) {
                return name;
            }
        }
        return NONE;
    }

    public int common(int photo, int other)
            throws IllegalStateException, IndexOutOfBoundsException {
        return photoAt(photo).nameSet() & photoAt(other).nameSet();
    }

    public int inversions(int photo, int other)
            throws IllegalStateException, IndexOutOfBoundsException {
        return countInversions(photoAt(photo), photoAt(other));
    }

    public boolean isMirrored(int photo, int other)
            throws IllegalStateException, IndexOutOfBoundsException {
        Photo one = photoAt(photo);
        Photo two = photoAt(other);
        int shared = Integer.bitCount(one.nameSet() & two.nameSet());
        int pairs = shared * (shared - 1) / 2;
        return 2 * countInversions(one, two) > pairs;
    }

    // ---- measures

    public int groups(int photo, int distance)
            throws IllegalStateException, IndexOutOfBoundsException, IllegalArgumentException {
        Picture asked = arranged(photo);
        checkRange(distance, 0, MAX_DISTANCE);
        return asked.groupsWithin(distance);
    }

    public int linking(int photo) throws IllegalStateException, IndexOutOfBoundsException {
        return arranged(photo).greatestLink();
    }

    public float spacing(int photo, int row)
            throws IllegalStateException, IndexOutOfBoundsException {
        Picture asked = arrangedWithRow(photo, row);
        int gaps = asked.lengthOfRow(row) - 1;
        if (gaps < 1) {
            return 0f;
        }
        int smallest = asked.shownX[asked.inRow(row, 0)];
        int greatest = asked.shownX[asked.inRow(row, gaps)];
        return (float) (greatest - smallest) / (float) gaps;
    }

    public float aspect(int photo) throws IllegalStateException, IndexOutOfBoundsException {
        Photo asked = photoAt(photo);
        return (float) asked.shownWidth() / (float) asked.shownHeight();
    }

    public int keeps(int photo, int x1, int y1, int x2, int y2)
            throws IllegalStateException, IndexOutOfBoundsException, IllegalArgumentException {
        Photo asked = photoAt(photo);
        checkRectangle(asked, x1, y1, x2, y2);
        return asked.shownWithin(x1, y1, x2, y2);
    }

    public int tightest(int photo, int set, int what)
            throws IllegalStateException, IndexOutOfBoundsException, IllegalArgumentException {
        Photo asked = photoAt(photo);
        checkRange(what, 0, 3);
        if (set == 0 || (set & ~asked.shownSet()) != 0) {
            throw new IllegalArgumentException("not a set of people in the picture");
        }
        return asked.sideRound(set, what);
    }

    public int window(int photo, int width)
            throws IllegalStateException, IndexOutOfBoundsException, IllegalArgumentException {
        Picture asked = arranged(photo);
        checkRange(width, 1, photoAt(photo).shownWidth());
        return asked.fullestWindow(width);
    }

    // ---- captions

    public int write(int photo) throws IllegalStateException, IndexOutOfBoundsException {
        writer.caption(arranged(photo), photoAt(photo), album.names);
        return writer.text.length();
    }

    public int writeChange(int photo) throws IllegalStateException, IndexOutOfBoundsException {
        Photo now = photoAt(photo);
        if (photo == 0) {
            throw new IndexOutOfBoundsException("no photo before");
        }
        writer.changeCaption(photoAt(photo - 1).nameSet(), now.nameSet(), album.names);
        return writer.text.length();
    }

    public int writtenByte(int i) throws IndexOutOfBoundsException {
        if (i < 0 || i >= writer.text.length()) {
            throw new IndexOutOfBoundsException("no such byte");
        }
        return writer.text.charAt(i);
    }

    // ---- changes

    public int crop(int photo, int x1, int y1, int x2, int y2)
            throws IllegalStateException, IndexOutOfBoundsException, IllegalArgumentException {
        Photo target = photoAt(photo);
        checkRectangle(target, x1, y1, x2, y2);
        history.record(album.state);
        int before = Integer.bitCount(target.shownSet());
        target.cutTo(x1, y1, x2, y2);
        return before - Integer.bitCount(target.shownSet());
    }

    public boolean flip(int photo) throws IllegalStateException, IndexOutOfBoundsException {
        Photo target = photoAt(photo);
        history.record(album.state);
        target.flipped = !target.flipped;
        return target.flipped;
    }

    public int uncrop(int photo) throws IllegalStateException, IndexOutOfBoundsException {
        Photo target = photoAt(photo);
        history.record(album.state);
        int before = Integer.bitCount(target.shownSet());
        target.frameWhole();
        return Integer.bitCount(target.shownSet()) - before;
    }

    public boolean retouch(int photo, int person, boolean away)
            throws IllegalStateException, IndexOutOfBoundsException {
        Photo target = photoWith(photo, person);
        history.record(album.state);
        boolean before = target.away[person];
        target.away[person] = away;
        return before;
    }

    public int addPerson(int photo, int x, int y)
            throws IllegalStateException, IndexOutOfBoundsException, IllegalArgumentException {
        Photo target = photoAt(photo);
        if (target.count >= MAX_PEOPLE) {
            throw new IllegalStateException("the photo is full");
        }
        checkRange(x, 0, target.shownWidth() - 1);
        checkRange(y, 0, target.shownHeight() - 1);
        history.record(album.state);
        target.add(target.flipped ? target.right - x : target.left + x, target.top + y);
        return target.count - 1;
    }

    public int giveName(int photo, int person, int name)
            throws IllegalStateException, IndexOutOfBoundsException {
        Photo target = photoWith(photo, person);
        if (name != NONE) {
            checkName(name);
        }
        history.record(album.state);
        int before = target.nameOfPerson[person];
        target.give(person, name);
        return before;
    }

    public int copyNames(int photo, int other)
            throws IllegalStateException, IndexOutOfBoundsException, IllegalArgumentException {
        Photo target = photoAt(photo);
        Photo source = photoAt(other);
        if (photo == other) {
            throw new IllegalArgumentException("the same photo twice");
        }
        history.record(album.state);
        picture.arrange(target, album.gap);
        otherPicture.arrange(source, album.gap);
        int given = 0;
        for (int row = 0; row < Math.min(picture.rowCount, otherPicture.rowCount); row++) {
            given += copyRow(target, source, row);
        }
        return given;
    }

    public int undo() throws IllegalStateException {
        if (history.kept == 0) {
            throw new IllegalStateException("nothing to undo");
        }
        history.takeBack(album.state);
        return history.kept;
    }

    public int undoable() {
        return history.kept;
    }

    public int save(int slot) throws IllegalStateException, IndexOutOfBoundsException {
        checkAlbum();
        checkSlot(slot);
        saved[slot].copyFrom(album.state);
        return album.state.countShown();
    }

    public int restore(int slot) throws IndexOutOfBoundsException, IllegalStateException {
        checkSlot(slot);
        if (saved[slot].count == 0) {
            throw new IllegalStateException("nothing is saved there");
        }
        album.state.copyFrom(saved[slot]);
        history.clear();
        return album.state.countShown();
    }

    // ---- what several of the above need

    private void checkAlbum() {
        // The text of an album always tells a photo.
        if (album.state.count == 0) {
            throw new IllegalStateException("no album");
        }
    }

    private void checkTextLength(int n) {
        if (n < 0 || n > input.stored) {
            throw new IndexOutOfBoundsException("not that many bytes in the buffer");
        }
    }

    private void checkName(int name) {
        checkAlbum();
        if (name < 0 || name >= album.names.count) {
            throw new IndexOutOfBoundsException("no such name");
        }
    }

    private static void checkSlot(int slot) {
        if (slot < 0 || slot >= SLOTS) {
            throw new IndexOutOfBoundsException("no such slot");
        }
    }

    private static void checkRange(int value, int low, int high) {
        if (value < low || value > high) {
            throw new IllegalArgumentException("an argument is out of its range");
        }
    }

    private static void checkRectangle(Photo photo, int x1, int y1, int x2, int y2) {
        checkRange(x1, 0, photo.shownWidth() - 1);
        checkRange(y1, 0, photo.shownHeight() - 1);
        checkRange(x2, x1, photo.shownWidth() - 1);
        checkRange(y2, y1, photo.shownHeight() - 1);
    }

    private Photo photoAt(int photo) {
        checkAlbum();
        if (photo < 0 || photo >= album.state.count) {
            throw new IndexOutOfBoundsException("no such photo");
        }
        return album.state.photos[photo];
    }

    private Photo photoWith(int photo, int person) {
        Photo found = photoAt(photo);
        if (person < 0 || person >= found.count) {
            throw new IndexOutOfBoundsException("no such person");
        }
        return found;
    }

    private Picture arranged(int photo) {
        picture.arrange(photoAt(photo), album.gap);
        return picture;
    }

    private Picture arrangedWithRow(int photo, int row) {
        Picture found = arranged(photo);
        if (row < 0 || row >= found.rowCount) {
            throw new IndexOutOfBoundsException("no such row");
        }
        return found;
    }

    private void countTimesSeen() {
        for (int name = 0; name < MAX_NAMES; name++) {
            timesSeen[name] = 0;
        }
        for (int i = 0; i < album.state.count; i++) {
            int seen = album.state.photos[i].nameSet();
            for (int name = 0; name < MAX_NAMES; name++) {
                timesSeen[name] += seen >> name & 1;
            }
        }
    }

    private int namesSeenBefore(int name) {
        int before = 0;
        for (int other = 0; other < album.names.count; other++) {
            int more = timesSeen[other] - timesSeen[name];
            if (more > 0 || more == 0 && album.names.comesBefore(other, name)) {
                before++;
            }
        }
        return before;
    }

    private int countInversions(Photo one, Photo two) {
        picture.arrange(one, album.gap);
        otherPicture.arrange(two, album.gap);
        int found = 0;
        for (int i = 0; i < picture.count; i++) {
            int left = otherPicture.orderOfName(two, one.nameOfPerson[picture.order[i]]);
            for (int j = i + 1; j < picture.count; j++) {
                int right = otherPicture.orderOfName(two, one.nameOfPerson[picture.order[j]]);
                if (right != NONE && left > right) {
                    found++;
                }
            }
        }
        return found;
    }

    /** Copies the names of a row that both arranged pictures have; tells how many. */
    private int copyRow(Photo target, Photo source, int row) {
        int places = Math.min(picture.lengthOfRow(row), otherPicture.lengthOfRow(row));
        int given = 0;
        for (int place = 0; place < places; place++) {
            int name = source.nameOfPerson[otherPicture.inRow(row, place)];
            if (name != NONE) {
                target.give(picture.inRow(row, place), name);
                given++;
            }
        }
        return given;
    }

    /** A photo as it was taken, its frame, and what is known of its people. */
    private static final class Photo {
        int width;
        int height;
        int left;
        int top;
        int right;
        int bottom;
        boolean flipped;
        int count;
        final int[] x = new int[MAX_PEOPLE];
        final int[] y = new int[MAX_PEOPLE];
        final boolean[] away = new boolean[MAX_PEOPLE];
        final int[] nameOfPerson = new int[MAX_PEOPLE];

        void begin(int newWidth, int newHeight) {
            width = newWidth;
            height = newHeight;
            flipped = false;
            count = 0;
            frameWhole();
        }

        void frameWhole() {
            left = 0;
            top = 0;
            right = width - 1;
            bottom = height - 1;
        }

        void copyFrom(Photo other) {
            width = other.width;
            height = other.height;
            left = other.left;
            top = other.top;
            right = other.right;
            bottom = other.bottom;
            flipped = other.flipped;
            count = other.count;
            for (int person = 0; person < MAX_PEOPLE; person++) {
                x[person] = other.x[person];
                y[person] = other.y[person];
                away[person] = other.away[person];
                nameOfPerson[person] = other.nameOfPerson[person];
            }
        }

        void add(int newX, int newY) {
            if (count < MAX_PEOPLE) {
                x[count] = newX;
                y[count] = newY;
                away[count] = false;
                nameOfPerson[count] = NONE;
                count++;
            }
        }

        int shownWidth() {
            return right - left + 1;
        }

        int shownHeight() {
            return bottom - top + 1;
        }

        boolean shows(int person) {
            return !away[person] && x[person] >= left && x[person] <= right
                    && y[person] >= top && y[person] <= bottom;
        }

        int shownX(int person) {
            return flipped ? right - x[person] : x[person] - left;
        }

        int shownY(int person) {
            return y[person] - top;
        }

        /** The set of the people in the picture. */
        int shownSet() {
            return shownWithin(0, 0, MAX_SIDE, MAX_SIDE);
        }

        /** The set of the people in the picture whose shown positions are in a rectangle. */
        int shownWithin(int x1, int y1, int x2, int y2) {
            int found = 0;
            for (int person = 0; person < count; person++) {
                if (shows(person) && shownX(person) >= x1 && shownX(person) <= x2
                        && shownY(person) >= y1 && shownY(person) <= y2) {
                    found |= 1 << person;
                }
            }
            return found;
        }

        /** The set of the names of the people in the picture. */
        int nameSet() {
            int found = 0;
            for (int person = 0; person < count; person++) {
                if (shows(person) && nameOfPerson[person] != NONE) {
                    found |= 1 << nameOfPerson[person];
                }
            }
            return found;
        }

        int holderOf(int name) {
            for (int person = 0; person < count; person++) {
                if (nameOfPerson[person] == name) {
                    return person;
                }
            }
            return NONE;
        }

        void give(int person, int name) {
            for (int holder = 0; holder < count; holder++) {
                if (nameOfPerson[holder] == name) {
                    nameOfPerson[holder] = NONE;
                }
            }
            nameOfPerson[person] = name;
        }

        void cutTo(int x1, int y1, int x2, int y2) {
            int oldLeft = left;
            int oldRight = right;
            left = flipped ? oldRight - x2 : oldLeft + x1;
            right = flipped ? oldRight - x1 : oldLeft + x2;
            bottom = top + y2;
            top = top + y1;
        }

        /** A side of the smallest rectangle round some people: 0 left, 1 top, 2 right, 3 bottom. */
        int sideRound(int set, int side) {
            boolean across = side == 0 || side == 2;
            boolean smallest = side < 2;
            int found = smallest ? SPAN : 0;
            for (int person = 0; person < count; person++) {
                if ((set >> person & 1) == 1) {
                    int at = across ? shownX(person) : shownY(person);
                    found = smallest ? Math.min(found, at) : Math.max(found, at);
                }
            }
            return found;
        }
    }

    /** Everything that changes alter: all photos of an album. */
    private static final class State {
        int count;
        final Photo[] photos = new Photo[MAX_PHOTOS];

        State() {
            for (int i = 0; i < MAX_PHOTOS; i++) {
                photos[i] = new Photo();
            }
        }

        void clear() {
            count = 0;
        }

        void copyFrom(State other) {
            count = other.count;
            for (int i = 0; i < MAX_PHOTOS; i++) {
                photos[i].copyFrom(other.photos[i]);
            }
        }

        void add(int width, int height) {
            if (count < MAX_PHOTOS) {
                photos[count].begin(width, height);
                count++;
            }
        }

        /** The number of people in all pictures together. */
        int countShown() {
            int found = 0;
            for (int i = 0; i < count; i++) {
                found += Integer.bitCount(photos[i].shownSet());
            }
            return found;
        }
    }

    /** The states before the latest changes. */
    private static final class History {
        int kept;
        private final State[] before = new State[MAX_CHANGES];

        History() {
            for (int i = 0; i < MAX_CHANGES; i++) {
                before[i] = new State();
            }
        }

        void clear() {
            kept = 0;
        }

        void record(State state) {
            if (kept >= MAX_CHANGES) {
                forgetOldest();
            }
            before[kept].copyFrom(state);
            kept++;
        }

        private void forgetOldest() {
            State oldest = before[0];
            for (int i = 1; i < MAX_CHANGES; i++) {
                before[i - 1] = before[i];
            }
            before[MAX_CHANGES - 1] = oldest;
            kept = MAX_CHANGES - 1;
        }

        void takeBack(State state) {
            if (kept > 0) {
                kept--;
                state.copyFrom(before[kept]);
            }
        }
    }

    /**
     * The names of an album. A word is held as a number, five bits a letter and the first letter
     * highest, so that words in alphabetical order are numbers in ascending order.
     */
    private static final class Names {
        int count;
        final long[] first = new long[MAX_NAMES];
        final long[] last = new long[MAX_NAMES];

        static int letterOf(long word, int place) {
            return (int) (word >> LETTER_BITS * (MAX_LETTERS - 1 - place)) & LETTER_MASK;
        }

        static int lengthOf(long word) {
            int length = 0;
            for (int place = 0; place < MAX_LETTERS; place++) {
                if (letterOf(word, place) != 0) {
                    length++;
                }
            }
            return length;
        }

        void add(long newFirst, long newLast) {
            if (count < MAX_NAMES) {
                first[count] = newFirst;
                last[count] = newLast;
                count++;
            }
        }

        int find(long askedFirst, long askedLast) {
            for (int name = 0; name < count; name++) {
                if (first[name] == askedFirst && last[name] == askedLast) {
                    return name;
                }
            }
            return NONE;
        }

        boolean comesBefore(int one, int two) {
            if (last[one] != last[two]) {
                return last[one] < last[two];
            }
            return first[one] < first[two];
        }
    }

    /** The people in a picture by their shown positions: their rows, places and order. */
    private static final class Picture {
        int count;
        int rowCount;
        final int[] shownX = new int[MAX_PEOPLE];
        final int[] shownY = new int[MAX_PEOPLE];
        final int[] order = new int[MAX_PEOPLE];
        final int[] rowOfPerson = new int[MAX_PEOPLE];
        final int[] placeOfPerson = new int[MAX_PEOPLE];
        private final int[] byRows = new int[MAX_PEOPLE];
        private final int[] rowStart = new int[MAX_PEOPLE + 1];
        private final int[] keys = new int[MAX_PEOPLE];
        private final int[] reach = new int[MAX_PEOPLE];
        private final int[] links = new int[MAX_PEOPLE];

        void arrange(Photo photo, int gap) {
            count = 0;
            for (int person = 0; person < MAX_PEOPLE; person++) {
                rowOfPerson[person] = NONE;
                placeOfPerson[person] = NONE;
                if (person < photo.count && photo.shows(person)) {
                    shownX[person] = photo.shownX(person);
                    shownY[person] = photo.shownY(person);
                    order[count] = person;
                    count++;
                }
            }
            formRows(gap);
            takePlaces();
            putInOrder();
        }

        private void formRows(int gap) {
            for (int i = 0; i < count; i++) {
                keys[i] = (MAX_SIDE - shownY[order[i]]) * MAX_PEOPLE + order[i];
            }
            sortKeys();
            rowCount = 0;
            int yBefore = 0;
            for (int i = 0; i < count; i++) {
                int person = keys[i] % MAX_PEOPLE;
                if (i == 0 || yBefore - shownY[person] > gap) {
                    rowCount++;
                }
                rowOfPerson[person] = rowCount - 1;
                yBefore = shownY[person];
            }
        }

        private void takePlaces() {
            for (int i = 0; i < count; i++) {
                int person = order[i];
                keys[i] = (rowOfPerson[person] * SPAN + shownX[person]) * MAX_PEOPLE + person;
            }
            sortKeys();
            int row = NONE;
            for (int i = 0; i < count; i++) {
                int person = keys[i] % MAX_PEOPLE;
                if (rowOfPerson[person] != row) {
                    row = rowOfPerson[person];
                    rowStart[row] = i;
                }
                byRows[i] = person;
                placeOfPerson[person] = i - rowStart[row];
            }
            rowStart[rowCount] = count;
        }

        private void putInOrder() {
            for (int i = 0; i < count; i++) {
                int person = order[i];
                int position = shownX[person] * SPAN + MAX_SIDE - shownY[person];
                keys[i] = position * MAX_PEOPLE + person;
            }
            sortKeys();
            for (int i = 0; i < count; i++) {
                order[i] = keys[i] % MAX_PEOPLE;
            }
        }

        /** Sorts the keys; a key is made so that its rest by MAX_PEOPLE is the person. */
        private void sortKeys() {
            for (int i = 1; i < count; i++) {
                int key = keys[i];
                int free = i;
                for (; free > 0 && keys[free - 1] > key; free--) {
                    keys[free] = keys[free - 1];
                }
                keys[free] = key;
            }
        }

        int lengthOfRow(int row) {
            return rowStart[row + 1] - rowStart[row];
        }

        int inRow(int row, int place) {
            return byRows[rowStart[row] + place];
        }

        /** The neighbour of a person in the row, so many places to the right, or NONE. */
        int neighbourOf(int person, int step) {
            int row = rowOfPerson[person];
            if (row == NONE) {
                return NONE;
            }
            int place = placeOfPerson[person] + step;
            return place < 0 || place >= lengthOfRow(row) ? NONE : inRow(row, place);
        }

        /** The only person between two people of one row, or NONE. */
        int onlyOneBetween(int one, int two) {
            int step = placeOfPerson[two] - placeOfPerson[one];
            if (rowOfPerson[one] != rowOfPerson[two] || Math.abs(step) != 2) {
                return NONE;
            }
            return neighbourOf(one, step > 0 ? 1 : -1);
        }

        /** The place in the order of all people of the one who has a name, or NONE. */
        int orderOfName(Photo photo, int name) {
            for (int i = 0; i < count; i++) {
                if (name != NONE && photo.nameOfPerson[order[i]] == name) {
                    return i;
                }
            }
            return NONE;
        }

        /** The person with a rank, which must be less than count, by the distance to a position. */
        int byDistance(int x, int y, int rank) {
            for (int i = 0; i < count; i++) {
                int person = order[i];
                int dx = shownX[person] - x;
                int dy = shownY[person] - y;
                keys[i] = (dx * dx + dy * dy) * MAX_PEOPLE + person;
            }
            sortKeys();
            return keys[rank] % MAX_PEOPLE;
        }

        int groupsWithin(int distance) {
            if (count == 0) {
                return 0;
            }
            linkAll();
            int found = 1;
            for (int i = 0; i < count - 1; i++) {
                if (links[i] > distance) {
                    found++;
                }
            }
            return found;
        }

        int greatestLink() {
            linkAll();
            int greatest = 0;
            for (int i = 0; i < count - 1; i++) {
                greatest = Math.max(greatest, links[i]);
            }
            return greatest;
        }

        /**
         * Joins the people one after the other, always the one who is nearest to those who are
         * joined. These links are a shortest tree: who is connected at all by links of at most
         * some length is so by those of the tree.
         */
        private void linkAll() {
            for (int i = 0; i < count; i++) {
                reach[i] = distanceBetween(order[0], order[i]);
            }
            int joined = 1;
            for (int i = 0; i < count - 1; i++) {
                int next = nearestBut(joined);
                if (next == NONE) {
                    return;
                }
                links[i] = reach[next];
                joined |= 1 << next;
                for (int j = 0; j < count; j++) {
                    int distance = distanceBetween(order[next], order[j]);
                    reach[j] = Math.min(reach[j], distance);
                }
            }
        }

        private int nearestBut(int joined) {
            int found = NONE;
            for (int i = 0; i < count; i++) {
                boolean free = (joined >> i & 1) == 0;
                if (free && (found == NONE || reach[i] < reach[found])) {
                    found = i;
                }
            }
            return found;
        }

        private int distanceBetween(int one, int two) {
            return Math.abs(shownX[one] - shownX[two]) + Math.abs(shownY[one] - shownY[two]);
        }

        /**
         * The smallest x whose window has the most people. A window further right than 0 that
         * has more people than those before it has a person at its right end.
         */
        int fullestWindow(int width) {
            int best = 0;
            int most = countFrom(0, width);
            for (int i = 0; i < count; i++) {
                int x = Math.max(0, shownX[order[i]] - width + 1);
                int found = countFrom(x, width);
                if (found > most) {
                    best = x;
                    most = found;
                }
            }
            return best;
        }

        private int countFrom(int x, int width) {
            int found = 0;
            for (int i = 0; i < count; i++) {
                int at = shownX[order[i]];
                if (at >= x && at < x + width) {
                    found++;
                }
            }
            return found;
        }
    }

    private enum Kind { WORD, NUMBER, SEMICOLON, COMMA, WRONG, END }

    /** The input buffer, and the tokens of the text that is parsed from it. */
    private static final class Input {
        private final byte[] bytes = new byte[MAX_BYTES];
        int stored;
        int errorCode;
        int errorStart = NONE;
        private int length;
        private int start;
        private int end;
        private Kind kind = Kind.END;
        private long word;
        private int number;

        void store(int fourBytes) {
            for (int shift = 24; shift >= 0 && stored < MAX_BYTES; shift -= 8) {
                bytes[stored] = (byte) (fourBytes >> shift);
                stored++;
            }
        }

        /** Empties the buffer and goes to the first token of its first n bytes. */
        void begin(int n) {
            length = n;
            stored = 0;
            errorCode = 0;
            errorStart = NONE;
            end = 0;
            advance();
        }

        void advance() {
            start = end;
            while (start < length && bytes[start] == ' ') {
                start++;
            }
            int letters = runFromStart('a', 'z');
            int digits = runFromStart('0', '9');
            if (start >= length) {
                kind = Kind.END;
            } else if (letters > 0) {
                takeWord(letters);
            } else if (digits > 0) {
                takeNumber(digits);
            } else {
                takeSign(bytes[start]);
            }
        }

        /** The number of bytes from the start of the token on that are all from low to high. */
        private int runFromStart(char low, char high) {
            int at = start;
            while (at < length && bytes[at] >= low && bytes[at] <= high) {
                at++;
            }
            return at - start;
        }

        private void takeWord(int letters) {
            end = start + letters;
            kind = letters > MAX_LETTERS ? Kind.WRONG : Kind.WORD;
            word = 0;
            for (int i = 0; i < letters && i < MAX_LETTERS; i++) {
                long letter = bytes[start + i] - 'a' + 1;
                word |= letter << LETTER_BITS * (MAX_LETTERS - 1 - i);
            }
        }

        private void takeNumber(int digits) {
            end = start + digits;
            kind = digits > MAX_DIGITS ? Kind.WRONG : Kind.NUMBER;
            number = 0;
            for (int i = 0; i < digits && i < MAX_DIGITS; i++) {
                number = 10 * number + bytes[start + i] - '0';
            }
        }

        private void takeSign(byte sign) {
            end = start + 1;
            kind = sign == ';' ? Kind.SEMICOLON : sign == ',' ? Kind.COMMA : Kind.WRONG;
        }

        boolean is(Kind asked) {
            return kind == asked;
        }

        boolean isWord(String text) {
            if (kind != Kind.WORD || end - start != text.length()) {
                return false;
            }
            for (int i = 0; i < text.length(); i++) {
                if (bytes[start + i] != text.charAt(i)) {
                    return false;
                }
            }
            return true;
        }

        /** Stops parsing with an error at the token if something does not hold there. */
        void require(boolean holds, int code) {
            if (!holds) {
                errorCode = code;
                errorStart = start;
                throw new IllegalArgumentException("the text has an error");
            }
        }

        void passWord(String text) {
            require(isWord(text), WRONG_TOKEN);
            advance();
        }

        /** The number that the token must be; stays at it, for more may be required there. */
        int numberFrom(int low, int high) {
            require(kind == Kind.NUMBER, WRONG_TOKEN);
            require(number >= low && number <= high, OUT_OF_BOUNDS);
            return number;
        }

        int passNumber(int low, int high) {
            int found = numberFrom(low, high);
            advance();
            return found;
        }

        /** The FIRST or LAST that the token must be; stays at it, for more may be required there. */
        long wordOfName() {
            boolean reserved = isWord("and") || isWord("someone") || isWord("left")
                    || isWord("right") || isWord("row") || isWord("all") || isWord("at")
                    || isWord("beside") || isWord("between");
            require(kind == Kind.WORD && !reserved, WRONG_TOKEN);
            return word;
        }
    }

    /** What a text tells: the gap, the names, and the photos with all that changes alter. */
    private static final class Album {
        int gap;
        final Names names = new Names();
        final State state = new State();

        void read(Input input) {
            names.count = 0;
            state.clear();
            input.passWord("album");
            input.passWord("gap");
            gap = input.passNumber(0, MAX_GAP);
            for (int lines = 0; lines < MAX_BYTES && input.is(Kind.SEMICOLON); lines++) {
                input.advance();
                readLine(input);
            }
            input.require(input.is(Kind.END), WRONG_TOKEN);
            input.require(state.count > 0, NO_PHOTO);
        }

        private void readLine(Input input) {
            if (input.isWord("name")) {
                readName(input);
            } else if (input.isWord("photo")) {
                readPhoto(input);
            } else {
                input.require(input.isWord("person"), WRONG_TOKEN);
                readPerson(input);
            }
        }

        private void readName(Input input) {
            input.require(names.count < MAX_NAMES, TOO_MANY);
            input.advance();
            long first = input.wordOfName();
            input.advance();
            long last = input.wordOfName();
            input.require(names.find(first, last) == NONE, NAME_TOLD_TWICE);
            input.advance();
            names.add(first, last);
        }

        private void readPhoto(Input input) {
            input.require(state.count < MAX_PHOTOS, TOO_MANY);
            input.advance();
            int width = input.passNumber(1, MAX_SIDE);
            int height = input.passNumber(1, MAX_SIDE);
            state.add(width, height);
        }

        private void readPerson(Input input) {
            input.advance();
            Photo photo = state.photos[input.numberFrom(0, state.count - 1)];
            input.require(photo.count < MAX_PEOPLE, TOO_MANY);
            input.advance();
            int x = input.passNumber(0, photo.width - 1);
            int y = input.passNumber(0, photo.height - 1);
            photo.add(x, y);
        }
    }

    /** Carries out the phrases of a text while it parses them, for errors depend on both. */
    private static final class PhraseReader {
        private final Input input;
        private final Names names;
        private final Photo photo;
        private final Picture picture;
        private int given;
        private final int[] queue = new int[MAX_PEOPLE];
        private int queued;
        private int called;
        private final long[] firsts = new long[MAX_PEOPLE];

        PhraseReader(Input input, Names names, Photo photo, Picture picture) {
            this.input = input;
            this.names = names;
            this.photo = photo;
            this.picture = picture;
        }

        /** Gives the photo its names; tells how many people got one, each time counted. */
        int carryOut() {
            readPhrase();
            for (int more = 0; more < MAX_BYTES && input.is(Kind.SEMICOLON); more++) {
                input.advance();
                readPhrase();
            }
            input.require(input.is(Kind.END), WRONG_TOKEN);
            return given;
        }

        private void readPhrase() {
            if (input.isWord("row")) {
                queueRow();
                readItems();
            } else if (input.isWord("all")) {
                queueAll();
                readItems();
            } else if (input.isWord("at")) {
                readAt();
            } else if (input.isWord("beside")) {
                readBeside();
            } else {
                input.require(input.isWord("between"), WRONG_TOKEN);
                readBetween();
            }
        }

        private void queueRow() {
            input.advance();
            int row = input.passNumber(0, picture.rowCount - 1);
            queued = picture.lengthOfRow(row);
            for (int place = 0; place < queued; place++) {
                queue[place] = picture.inRow(row, place);
            }
        }

        private void queueAll() {
            input.advance();
            queued = picture.count;
            for (int place = 0; place < queued; place++) {
                queue[place] = picture.order[place];
            }
        }

        private void readItems() {
            if (sideAtToken() > 0) {
                turnQueue();
            }
            input.advance();
            called = 0;
            readItem();
            for (int more = 0; more < MAX_BYTES && input.is(Kind.COMMA); more++) {
                input.advance();
                readItem();
            }
        }

        /** The step to the side that the token must tell: -1 left, 1 right; stays at it. */
        private int sideAtToken() {
            boolean right = input.isWord("right");
            input.require(right || input.isWord("left"), WRONG_TOKEN);
            return right ? 1 : -1;
        }

        private void turnQueue() {
            for (int i = 0; i < queued / 2; i++) {
                int person = queue[i];
                queue[i] = queue[queued - 1 - i];
                queue[queued - 1 - i] = person;
            }
        }

        private void readItem() {
            if (input.isWord("someone")) {
                input.require(called < queued, NO_PERSON);
                called++;
                input.advance();
                return;
            }
            int count = 0;
            boolean more = true;
            // A FIRST beyond the queue is an error of its own, so the loop goes on until it.
            for (; count <= MAX_PEOPLE && more; count++) {
                long first = input.wordOfName();
                input.require(called + count < queued, NO_PERSON);
                firsts[count] = first;
                input.advance();
                more = input.isWord("and");
                if (more) {
                    input.advance();
                }
            }
            long last = input.wordOfName();
            for (int i = 0; i < count; i++) {
                give(queue[called + i], knownName(firsts[i], last));
            }
            called += count;
            input.advance();
        }

        private void readAt() {
            input.advance();
            int x = input.passNumber(0, MAX_SIDE);
            int y = input.numberFrom(0, MAX_SIDE);
            input.require(picture.count > 0, NO_PERSON);
            input.advance();
            give(picture.byDistance(x, y, 0), nameAtLast());
            input.advance();
        }

        private void readBeside() {
            input.advance();
            int person = shownHolder(nameAtLast());
            input.advance();
            int neighbour = picture.neighbourOf(person, sideAtToken());
            input.require(neighbour != NONE, NO_PERSON);
            input.advance();
            give(neighbour, nameAtLast());
            input.advance();
        }

        private void readBetween() {
            input.advance();
            int one = shownHolder(nameAtLast());
            input.advance();
            int two = shownHolder(nameAtLast());
            int middle = picture.onlyOneBetween(one, two);
            input.require(middle != NONE, NO_PERSON);
            input.advance();
            give(middle, nameAtLast());
            input.advance();
        }

        /** The name that FIRST, which is passed, makes with LAST; stays at LAST. */
        private int nameAtLast() {
            long first = input.wordOfName();
            input.advance();
            return knownName(first, input.wordOfName());
        }

        private int knownName(long first, long last) {
            int name = names.find(first, last);
            input.require(name != NONE, UNKNOWN_NAME);
            return name;
        }

        private int shownHolder(int name) {
            int holder = photo.holderOf(name);
            input.require(holder != NONE && photo.shows(holder), UNKNOWN_NAME);
            return holder;
        }

        private void give(int person, int name) {
            photo.give(person, name);
            given++;
        }
    }

    /** The text that was written last. */
    private static final class CaptionWriter {
        final StringBuilder text = new StringBuilder();

        void caption(Picture picture, Photo photo, Names names) {
            text.setLength(0);
            if (picture.rowCount == 0) {
                text.append("nobody");
            }
            for (int row = 0; row < picture.rowCount; row++) {
                text.append(row > 0 ? "; row " : "row ").append(row).append(": ");
                putRow(picture, row, photo, names);
            }
        }

        private void putRow(Picture picture, int row, Photo photo, Names names) {
            int length = picture.lengthOfRow(row);
            int inItem = 0;
            for (int place = 0; place < length; place++) {
                int name = photo.nameOfPerson[picture.inRow(row, place)];
                if (name != NONE) {
                    text.append(inItem > 0 ? " and " : "");
                    putWord(names.first[name]);
                }
                inItem++;
                boolean lastOfRow = place + 1 >= length;
                if (lastOfRow || !isOneItem(name,
                        photo.nameOfPerson[picture.inRow(row, place + 1)], names)) {
                    endItem(name, inItem, names);
                    text.append(lastOfRow ? "" : ", ");
                    inItem = 0;
                }
            }
        }

        private static boolean isOneItem(int one, int two, Names names) {
            if (one == NONE || two == NONE) {
                return one == two;
            }
            return names.last[one] == names.last[two];
        }

        private void endItem(int name, int people, Names names) {
            if (name != NONE) {
                text.append(' ');
                putWord(names.last[name]);
            } else if (people == 1) {
                text.append("someone");
            } else {
                text.append(people).append(" others");
            }
        }

        void changeCaption(int before, int now, Names names) {
            int come = now & ~before;
            int gone = before & ~now;
            text.setLength(0);
            if (come == 0 && gone == 0) {
                text.append("as before");
            }
            if (come != 0) {
                text.append("with ");
                putNames(come, names);
            }
            if (gone != 0) {
                text.append(come != 0 ? "; without " : "without ");
                putNames(gone, names);
            }
        }

        private void putNames(int set, Names names) {
            boolean more = false;
            for (int name = 0; name < names.count; name++) {
                if ((set >> name & 1) == 1) {
                    text.append(more ? ", " : "");
                    putWord(names.first[name]);
                    text.append(' ');
                    putWord(names.last[name]);
                    more = true;
                }
            }
        }

        private void putWord(long word) {
            for (int place = 0; place < MAX_LETTERS; place++) {
                int letter = Names.letterOf(word, place);
                if (letter > 0) {
                    text.append((char) ('a' + letter - 1));
                }
            }
        }
    }
}
