/** What the tests share: feeding texts, and comparing answers with those that are due. */
final class Due {
    private static int wrong = 0;
    private static int asked = 0;
    private static String sentence = "";

    interface Call {
        Object answer();
    }

    private Due() {
    }

    /** What stands before the faults from now on: the sentence of the document that is tested. */
    static void setSentence(String words) {
        sentence = words;
    }

    static int asked() {
        return asked;
    }

    static void fault(String what) {
        wrong++;
        System.out.println(sentence + what);
    }

    static void is(String call, Object got, Object want) {
        asked++;
        if (!want.equals(got)) {
            fault(call + " answered " + got + ", due is " + want);
        }
    }

    static void state(String call, Call made) {
        throwing(call, IllegalStateException.class, made);
    }

    static void index(String call, Call made) {
        throwing(call, IndexOutOfBoundsException.class, made);
    }

    static void argument(String call, Call made) {
        throwing(call, IllegalArgumentException.class, made);
    }

    private static void throwing(String call, Class<?> kind, Call made) {
        String got;
        try {
            got = String.valueOf(made.answer());
        } catch (RuntimeException e) {
            got = e.getClass().getName();
        }
        is(call, got, kind.getName());
    }

    /** Appends a text, with blanks behind it up to a multiple of twenty bytes. */
    static void feed(CaptionAlbum x, String text) {
        StringBuilder bytes = new StringBuilder(text);
        while (bytes.length() % 20 != 0) {
            bytes.append(' ');
        }
        for (int i = 0; i < bytes.length(); i += 20) {
            x.append(four(bytes, i), four(bytes, i + 4), four(bytes, i + 8),
                    four(bytes, i + 12), four(bytes, i + 16));
        }
    }

    private static int four(StringBuilder bytes, int i) {
        return bytes.charAt(i) << 24 | bytes.charAt(i + 1) << 16
                | bytes.charAt(i + 2) << 8 | bytes.charAt(i + 3);
    }

    static int load(CaptionAlbum x, String text) {
        feed(x, text);
        return x.load(text.length());
    }

    static CaptionAlbum album(String text) {
        CaptionAlbum x = new CaptionAlbum();
        load(x, text);
        return x;
    }

    static int phrases(CaptionAlbum x, int photo, String text) {
        feed(x, text);
        return x.phrases(photo, text.length());
    }

    static void loadFails(String text, int code, int position) {
        CaptionAlbum x = new CaptionAlbum();
        argument("load of " + text, () -> load(x, text));
        failed(x, text, code, position);
        is("photos() after " + text, x.photos(), 0);
    }

    static void phrasesFail(CaptionAlbum x, int photo, String text, int code, int position) {
        int undoable = x.undoable();
        String before = namesOf(x, photo);
        argument("phrases of " + text, () -> phrases(x, photo, text));
        failed(x, text, code, position);
        is("undoable() after " + text, x.undoable(), undoable);
        is("names after " + text, namesOf(x, photo), before);
    }

    private static void failed(CaptionAlbum x, String text, int code, int position) {
        is("parseError() after " + text, x.parseError(), code);
        is("errorPosition() after " + text, x.errorPosition(), position);
        is("buffered() after " + text, x.buffered(), 0);
    }

    /** The names of all people of a photo, by their numbers: "0 - 2" if person 1 has none. */
    static String namesOf(CaptionAlbum x, int photo) {
        StringBuilder names = new StringBuilder();
        int people = x.people(photo);
        for (int person = 0; person < people; person++) {
            int name = x.nameOf(photo, person);
            names.append(person > 0 ? " " : "").append(name < 0 ? "-" : String.valueOf(name));
        }
        return names.toString();
    }

    static String order(CaptionAlbum x, int photo) {
        StringBuilder people = new StringBuilder();
        for (int place = 0; place < Integer.bitCount(x.inPicture(photo)); place++) {
            people.append(place > 0 ? " " : "").append(x.inOrder(photo, place));
        }
        return people.toString();
    }

    static String rowsOf(CaptionAlbum x, int photo) {
        StringBuilder people = new StringBuilder();
        for (int row = 0; row < x.rows(photo); row++) {
            people.append(row > 0 ? "; " : "");
            for (int place = 0; place < x.rowLength(photo, row); place++) {
                people.append(place > 0 ? " " : "").append(x.personAt(photo, row, place));
            }
        }
        return people.toString();
    }

    static String caption(CaptionAlbum x, int photo) {
        return written(x, x.write(photo));
    }

    static String change(CaptionAlbum x, int photo) {
        return written(x, x.writeChange(photo));
    }

    private static String written(CaptionAlbum x, int length) {
        StringBuilder text = new StringBuilder();
        for (int i = 0; i < length; i++) {
            text.append((char) x.writtenByte(i));
        }
        index("writtenByte behind the text", () -> x.writtenByte(length));
        return text.toString();
    }

    /** All that can be asked without changing anything, but for the input buffer and its errors. */
    static String everything(CaptionAlbum x) {
        StringBuilder all = new StringBuilder();
        int photos = x.photos();
        all.append(photos).append(" photos, ").append(x.names()).append(" names, ");
        all.append(x.undoable()).append(" undoable, text ").append(writtenText(x));
        for (int photo = 0; photo < photos; photo++) {
            all.append("; photo ").append(photo).append(": ").append(frame(x, photo));
            all.append(x.isFlipped(photo) ? " flipped" : "");
            int people = x.people(photo);
            for (int person = 0; person < people; person++) {
                all.append(", at ").append(x.shownAt(photo, person));
                all.append(" row ").append(x.rowOf(photo, person));
                all.append(" name ").append(x.nameOf(photo, person));
            }
        }
        return all.toString();
    }

    static String frame(CaptionAlbum x, int photo) {
        return x.frame(photo, 0) + " " + x.frame(photo, 1) + " " + x.frame(photo, 2) + " "
                + x.frame(photo, 3);
    }

    private static String writtenText(CaptionAlbum x) {
        StringBuilder text = new StringBuilder();
        try {
            while (text.length() < 1000) {
                text.append((char) x.writtenByte(text.length()));
            }
        } catch (IndexOutOfBoundsException e) {
            text.append('.');
        }
        return text.toString();
    }

    static String texts(CaptionAlbum x) {
        return x.buffered() + " bytes, error " + x.parseError() + " at " + x.errorPosition();
    }

    /** Two albums answer alike, also when everything is undone and restored; both change then. */
    static void alike(String after, CaptionAlbum got, CaptionAlbum want) {
        is("everything after " + after, everything(got), everything(want));
        while (want.undoable() > 0 && got.undoable() > 0) {
            is("undo() after " + after, got.undo(), want.undo());
            is("everything undone after " + after, everything(got), everything(want));
        }
        for (int slot = 0; slot < 2; slot++) {
            is("restore(" + slot + ") after " + after, restored(got, slot), restored(want, slot));
            is("everything restored after " + after, everything(got), everything(want));
        }
    }

    private static String restored(CaptionAlbum x, int slot) {
        try {
            return String.valueOf(x.restore(slot));
        } catch (IllegalStateException e) {
            return "nothing is saved";
        }
    }

    static void end(String test) {
        System.out.println(test + ": " + asked + " answers, " + wrong + " wrong");
        System.exit(wrong == 0 && asked > 0 ? 0 : 1);
    }
}
