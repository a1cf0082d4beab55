import java.lang.reflect.InvocationTargetException;
import java.lang.reflect.Method;
import java.util.ArrayList;
import java.util.Arrays;
import java.util.Comparator;
import java.util.List;
import java.util.Random;

/** Compares CaptionAlbum with Model in runs of random calls, always the same ones. */
public final class RandomRunsTest {
    private static final String[] FIRSTS = {"ann", "bob", "cy", "a", "abcdefgh"};
    private static final String[] LASTS = {"lee", "le", "fox", "zyxwvuts", "photo"};
    private static final String[] OTHERS = {"and", "someone", "left", "right", "row", "all", "at",
        "beside", "between", ";", ",", "0", "1", "12", "1000", "00001", "abcdefghi", "?", "name",
        "photo", "person", "", "\u00e1", "gap"};
    private static final int RUNS = 1500;
    private static final int CALLS = 512;

    private final Random random;
    private final CaptionAlbum album = new CaptionAlbum();
    private final Model model = new Model();
    private final List<Method> calls = new ArrayList<>();
    private String latestText = "";
    private int made = 0;

    private RandomRunsTest(int seed) {
        random = new Random(seed);
        for (Method method : CaptionAlbum.class.getDeclaredMethods()) {
            if (java.lang.reflect.Modifier.isPublic(method.getModifiers())) {
                calls.add(method);
            }
        }
        calls.sort(Comparator.comparing(Method::getName));
        // Loads make a run forget what it has, and names are what most calls tell of.
        calls.removeIf(call -> call.getName().equals("load") && random.nextInt(3) > 0);
        Method giveName = calls.stream().filter(c -> c.getName().equals("giveName")).findAny().get();
        calls.addAll(java.util.Collections.nCopies(random.nextInt(30), giveName));
    }

    public static void main(String[] args) throws ReflectiveOperationException {
        for (int seed = 0; seed < RUNS; seed++) {
            String fault = new RandomRunsTest(seed).run();
            if (fault != null) {
                System.out.println("run " + seed + ": " + fault);
                System.exit(1);
            }
        }
        System.out.println("RandomRunsTest: " + RUNS + " runs as the model has them");
    }

    private String run() throws ReflectiveOperationException {
        boolean small = random.nextBoolean();
        while (made < CALLS - 70) {
            int kind = random.nextInt(200);
            String fault;
            if (kind == 0 || model.photos() == 0 && kind < 100) {
                fault = text("load", albumText(small));
                fault = fault == null && random.nextBoolean() ? nameMany() : fault;
            } else if (kind < 20) {
                fault = text("phrases", phrasesText());
            } else {
                fault = anyCall();
            }
            if (fault != null) {
                return fault;
            }
        }
        return null;
    }

    /** Names people of the first two photos, so that these have many names in common. */
    private String nameMany() throws ReflectiveOperationException {
        Class<?>[] types = {int.class, int.class, int.class};
        for (int photo = 0; photo < Math.min(2, model.photos()); photo++) {
            for (int person = 0; person < model.people(photo); person++) {
                Object[] arguments = {photo, person, below(Math.min(8, model.names()))};
                String fault = compare("giveName", types, arguments);
                if (fault != null) {
                    return fault;
                }
            }
        }
        return null;
    }

    private String anyCall() throws ReflectiveOperationException {
        Method call = calls.get(random.nextInt(calls.size()));
        Object[] arguments = new Object[call.getParameterCount()];
        for (int i = 0; i < arguments.length; i++) {
            boolean flag = call.getParameterTypes()[i] == boolean.class;
            int photo = i > 0 && arguments[0] instanceof Integer first ? first : 0;
            arguments[i] = flag ? (Object) (random.nextInt(3) == 0)
                    : (Object) number(call.getName(), i, photo);
        }
        if (random.nextInt(3) > 0) {
            Arrays.stream(new int[] {3, 4}).filter(i -> i < arguments.length)
                    .filter(i -> call.getName().matches("crop|keeps"))
                    .forEach(i -> arguments[i] = upTo((Integer) arguments[0], i - 1));
        }
        return compare(call.getName(), call.getParameterTypes(), arguments);
    }

    /** A number that mostly suits the call as things are. */
    private int number(String call, int place, int photo) {
        int[] odd = {-2, -1, 5, 12, 999, 1000, 1998, 1999, Integer.MAX_VALUE, Integer.MIN_VALUE};
        if (random.nextInt(40) == 0) {
            return odd[random.nextInt(odd.length)];
        }
        boolean photoFirst = !call.matches(
                "letters|photosWith|mostSeen|writtenByte|save|restore|load|append");
        if (place == 0 && photoFirst || place == 1 && call.matches(
                "common|inversions|isMirrored|copyNames")) {
            return below(model.photos());
        }
        if (place == 1 && call.matches("isIn|shownAt|rowOf|placeOf|nameOf|retouch|giveName")) {
            return below(isPhoto(photo) ? model.people(photo) : 3);
        }
        switch (call) {
            case "crop", "keeps":
                return random.nextInt(place < 3 ? 4 : 90);
            case "tightest":
                return place == 1 ? random.nextInt(4096) & (isPhoto(photo) ? model.inPicture(photo)
                        : -1) | (random.nextInt(9) == 0 ? 8 : 0) : random.nextInt(5);
            case "giveName", "who", "mostSeen", "letters", "photosWith":
                return below(model.names());
            case "groups", "window":
                return random.nextInt(isPhoto(photo) ? model.frame(photo, 2) + 3 : 60);
            case "nearest":
                return random.nextInt(place == 1 || place == 2 ? 40 : 5);
            case "addPerson":
                return random.nextInt(12);
            case "writtenByte":
                return random.nextInt(60);
            default:
                return random.nextInt(call.matches("save|restore|rowLength|spacing") ? 3 : 5);
        }
    }

    private int below(int size) {
        return random.nextInt(12) == 0 ? size : size == 0 ? 0 : random.nextInt(size);
    }

    private boolean isPhoto(int photo) {
        return photo >= 0 && photo < model.photos();
    }

    private Object upTo(int photo, int side) {
        if (!isPhoto(photo)) {
            return 0;
        }
        return model.frame(photo, side) - model.frame(photo, side - 2) - random.nextInt(4);
    }

    private String albumText(boolean small) {
        boolean large = !small && random.nextInt(3) == 0;
        int width = small ? 12 : large ? lengthOfSide(999) : 100;
        int height = small ? 9 : large ? lengthOfSide(999) : 90;
        StringBuilder text = new StringBuilder("album gap ");
        text.append(random.nextInt(small ? 4 : large ? 100 : 30));
        int photos = 0;
        int lines = random.nextInt(45);
        for (int i = 0; i < lines; i++) {
            int kind = random.nextInt(10);
            if (photos == 0 || kind == 0 && (photos < 5 || random.nextInt(9) == 0)) {
                photos++;
                text.append(";photo ").append(width).append(' ').append(height);
            } else if (kind < 4) {
                text.append(";name ").append(first()).append(' ').append(last());
            } else {
                text.append(";person ").append(random.nextInt(photos));
                text.append(' ').append(position(width)).append(' ').append(position(height));
            }
        }
        String told = withoutDoubles(text.toString());
        return random.nextBoolean() ? told : spoiled(told);
    }

    /** A width or height: the greatest as often as the others together, and the smallest too. */
    private int lengthOfSide(int greatest) {
        return random.nextBoolean() ? greatest : random.nextInt(4) == 0 ? 1
                : 1 + random.nextInt(greatest);
    }

    private int position(int side) {
        int kind = random.nextInt(12);
        return kind == 0 ? 0 : kind == 1 ? side - 1 : random.nextInt(side);
    }

    /** Without the names that an earlier line has told, but for a few. */
    private String withoutDoubles(String text) {
        List<String> kept = new ArrayList<>();
        for (String line : text.split(";")) {
            if (!line.startsWith("name") || !kept.contains(line) || random.nextInt(60) == 0) {
                kept.add(line);
            }
        }
        return String.join(";", kept);
    }

    private String phrasesText() {
        StringBuilder text = new StringBuilder();
        int phrases = 1 + random.nextInt(3);
        for (int i = 0; i < phrases; i++) {
            text.append(i > 0 ? ";" : "");
            switch (random.nextInt(5)) {
                case 0 -> text.append("row ").append(random.nextInt(3)).append(side()).append(items());
                case 1 -> text.append("all").append(side()).append(items());
                case 2 -> text.append("at ").append(random.nextInt(i == 0 ? 90 : 1000)).append(' ')
                        .append(random.nextInt(i == 0 ? 90 : 1000)).append(' ').append(full());
                case 3 -> text.append("beside ").append(full()).append(side()).append(full());
                default -> text.append("between ").append(full()).append(' ').append(full())
                        .append(' ').append(full());
            }
        }
        return spoiled(text.toString());
    }

    private String items() {
        StringBuilder text = new StringBuilder();
        int items = 1 + random.nextInt(random.nextInt(6) == 0 ? 13 : 3);
        for (int i = 0; i < items; i++) {
            text.append(i > 0 ? ", " : "");
            if (random.nextInt(4) == 0) {
                text.append("someone");
            } else {
                text.append(random.nextInt(3) == 0 ? first() + " and " : "").append(full());
            }
        }
        return text.toString();
    }

    private String side() {
        return random.nextBoolean() ? " left " : " right ";
    }

    private String first() {
        return FIRSTS[random.nextInt(FIRSTS.length)];
    }

    private String last() {
        return LASTS[random.nextInt(LASTS.length)];
    }

    private String full() {
        int names = model.names();
        if (names == 0 || random.nextInt(12) == 0) {
            return first() + " " + last();
        }
        // The words are those of the latest album, as far as it told them.
        List<String> told = new ArrayList<>();
        for (String line : latestText.split(";")) {
            if (line.startsWith("name ")) {
                told.add(line.substring(5));
            }
        }
        return told.isEmpty() ? "ann lee" : told.get(random.nextInt(told.size()));
    }

    private String spoiled(String text) {
        if (random.nextInt(3) > 0) {
            return text;
        }
        String[] words = text.split("(?<=[ ;,])|(?=[ ;,])");
        words[random.nextInt(words.length)] = OTHERS[random.nextInt(OTHERS.length)];
        return String.join("", words);
    }

    private String text(String call, String text) throws ReflectiveOperationException {
        StringBuilder bytes = new StringBuilder(text);
        while (bytes.length() % 20 != 0) {
            bytes.append(random.nextInt(3) == 0 ? 'x' : ' ');
        }
        int free = 1200 - model.buffered();
        if (bytes.length() > free || model.buffered() > 0) {
            // Whatever random appends have left there goes away with a load that fails.
            return compare("load", new Class<?>[] {int.class}, new Object[] {0});
        }
        for (int i = 0; i < bytes.length(); i += 20) {
            Object[] fives = new Object[5];
            for (int k = 0; k < 5; k++) {
                int at = i + 4 * k;
                fives[k] = bytes.charAt(at) << 24 | bytes.charAt(at + 1) << 16
                        | bytes.charAt(at + 2) << 8 | bytes.charAt(at + 3);
            }
            Class<?>[] types = {int.class, int.class, int.class, int.class, int.class};
            String fault = compare("append", types, fives);
            if (fault != null) {
                return fault;
            }
        }
        int n = random.nextInt(15) == 0 ? random.nextInt(bytes.length() + 2) : text.length();
        if (call.equals("load")) {
            String fault = compare(call, new Class<?>[] {int.class}, new Object[] {n});
            if (model.parseError() == 0 && n == text.length()) {
                latestText = text;
            }
            return fault == null ? afterText() : fault + " of " + text;
        }
        Class<?>[] two = {int.class, int.class};
        Object[] arguments = {random.nextInt(Math.max(1, Math.min(3, model.photos()))), n};
        String fault = compare(call, two, arguments);
        return fault == null ? afterText() : fault + " of " + text;
    }

    private String afterText() throws ReflectiveOperationException {
        for (String call : new String[] {"parseError", "errorPosition", "buffered", "undoable"}) {
            String fault = compare(call, new Class<?>[0], new Object[0]);
            if (fault != null) {
                return fault + " after " + latestText;
            }
        }
        return null;
    }

    private String compare(String call, Class<?>[] types, Object[] arguments)
            throws ReflectiveOperationException {
        made++;
        String got = answer(CaptionAlbum.class.getMethod(call, types), album, arguments);
        String want = answer(Model.class.getMethod(call, types), model, arguments);
        if (got.equals(want)) {
            return null;
        }
        return "call " + made + ", " + call + Arrays.toString(arguments) + " answered " + got
                + ", due is " + want;
    }

    /** The answer, or the exception's own class: one of the machine would differ in it. */
    private static String answer(Method call, Object of, Object[] arguments)
            throws ReflectiveOperationException {
        try {
            call.setAccessible(true);
            return String.valueOf(call.invoke(of, arguments));
        } catch (InvocationTargetException e) {
            return e.getCause().getClass().getName();
        }
    }
}
