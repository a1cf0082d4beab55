/** Promises 1 to 3 and 5 to 7, and the buffer and the texts of albums in section 6. */
final class InputSentences {
    private static final String SMALL = "album gap 1;photo 10 10";
    private static final String RICH = "album gap 7;name ann lee;name bob fox;photo 50 60;"
            + "person 0 10 20;person 0 30 26;photo 70 80;person 1 5 5";
    private static final String[] WITH_CODES_1_TO_5 = {
        "", SMALL + ";photo 1000 10", SMALL + ";name a b;name a b",
        SMALL + ";photo 9 9".repeat(5), "album gap 1"};
    private static final int[] POSITIONS = {0, 30, 40, 64, 11};

    private InputSentences() {
    }

    static void tell(Sentences s) {
        newObject(s);
        append(s);
        load(s);
        refusedLoad(s);
        errors(s);
        tokens(s);
        runs(s);
        grammar(s);
        bounds(s);
        limits(s);
        firstError(s);
        codes(s);
        codesOfLimits(s);
    }

    private static void newObject(Sentences s) {
        s.promise(1, "Creates an object without an album and with an empty input buffer.", () -> {
            // Another object, with an album and a text in its buffer, must not matter.
            CaptionAlbum other = Due.album(RICH);
            Due.feed(other, SMALL);
            other.save(0);
            CaptionAlbum x = new CaptionAlbum();
            Due.is("everything", Due.everything(x), "0 photos, 0 names, 0 undoable, text .");
            Due.is("texts", Due.texts(x), "0 bytes, error 0 at -1");
            Due.state("people(0)", () -> x.people(0));
            Due.state("letters(0)", () -> x.letters(0));
            Due.state("undo()", () -> x.undo());
            Due.state("save(0)", () -> x.save(0));
            Due.state("restore(0)", () -> x.restore(0));
            Due.index("load(1)", () -> x.load(1));
            Due.argument("load(0)", () -> x.load(0));
            Due.is("photos of the other", other.photos(), 2);
            Due.is("buffered() of the other", other.buffered(), 40);
        });
        s.section(7, "`NONE = -1`: The value for \"none\", -1.",
                () -> Due.is("NONE", CaptionAlbum.NONE, -1));
    }

    private static void append(Sentences s) {
        s.promise(2, "Appends twenty bytes to the input buffer: the four bytes of each argument in "
                + "order, the most significant byte first.", () -> {
            CaptionAlbum x = new CaptionAlbum();
            x.append(0x616c6275, 0x6d206761, 0x7020313b, 0x70686f74, 0x6f203739);
            x.append(0x20333820, 0x20202020, 0x3b6e616d, 0x65206162, 0x20636465);
            Due.is("load(40)", x.load(40), 1);
            Due.is("frame", Due.frame(x, 0), "0 0 78 37");
            Due.is("letters(0)", x.letters(0), 5);
        });
        for (int argument = 0; argument < 5; argument++) {
            int first = 4 * argument;
            String words = "`" + "abcde".charAt(argument) + "`: bytes " + first + " to " + (first + 3);
            s.promise(2, words, () -> wrongByteOfEach(first));
        }
        s.promise(2, "Returns the number of bytes in the buffer", () -> {
            CaptionAlbum x = new CaptionAlbum();
            for (int bytes = 20; bytes <= 1200; bytes += 20) {
                Due.is("append", x.append(-1, -1, -1, -1, -1), bytes);
            }
        });
        s.promise(2, "NONE if there would be more than 1200, in which case nothing is appended.",
                () -> notAppended(61));
        s.section(6, "The input buffer holds at most 1200 bytes.", InputSentences::lastByteCounts);
    }

    /** Among blanks, the byte that starts no token tells its place by the error's position. */
    private static void wrongByteOfEach(int first) {
        int[] wrong = {0x80, 0xff, 0xe1, 0x00, 0x41};
        for (int at = first; at < first + 4; at++) {
            for (int odd : wrong) {
                int[] fours = {0x20202020, 0x20202020, 0x20202020, 0x20202020, 0x20202020};
                int shift = 24 - 8 * (at - first);
                fours[first / 4] = fours[first / 4] & ~(0xff << shift) | odd << shift;
                CaptionAlbum x = new CaptionAlbum();
                x.append(fours[0], fours[1], fours[2], fours[3], fours[4]);
                Due.argument("load(20)", () -> x.load(20));
                Due.is("errorPosition()", x.errorPosition(), at);
            }
        }
    }

    private static void notAppended(int appends) {
        CaptionAlbum x = new CaptionAlbum();
        Due.feed(x, SMALL + " ".repeat(1180 - SMALL.length()));
        Due.is("buffered()", x.buffered(), 1180);
        Due.is("append 60", x.append(0x20202020, 0x20202020, 0x20202020, 0x20202020, 0x20202020),
                1200);
        for (int i = 61; i <= appends + 2; i++) {
            Due.is("append " + i, x.append('a', 'a', 'a', 'a', 'a'), -1);
            Due.is("buffered()", x.buffered(), 1200);
        }
        Due.is("load(1200)", x.load(1200), 1);
        Due.is("append when empty", x.append(0, 0, 0, 0, 0), 20);
    }

    private static void lastByteCounts() {
        String text = SMALL + " ".repeat(1200 - SMALL.length() - 9) + ";photo 34";
        CaptionAlbum x = new CaptionAlbum();
        Due.feed(x, text);
        Due.argument("load(1200)", () -> x.load(1200));
        Due.is("texts", Due.texts(x), "0 bytes, error 1 at 1200");
        String whole = SMALL + " ".repeat(1200 - SMALL.length() - 12) + ";photo 34 56";
        Due.is("load(1200)", Due.load(x, whole), 2);
        Due.is("BOTTOM", x.frame(1, 3), 55);
        Due.feed(x, whole);
        Due.is("load(1199)", x.load(1199), 2);
        Due.is("BOTTOM of 1199", x.frame(1, 3), 4);
    }

    private static void load(Sentences s) {
        s.promise(3, "Parses the first n bytes of the input buffer as an album and empties the "
                + "buffer, even if the parse fails.", () -> {
            CaptionAlbum x = new CaptionAlbum();
            int[] lengths = {22, 23, 33, 10, 0};
            String[] due = {"1 0", "1 0", "2 0", "fails 1", "fails 1"};
            for (int i = 0; i < lengths.length; i++) {
                Due.feed(x, SMALL + ";photo 5 5;wrong");
                Due.is("load(" + lengths[i] + ")", loaded(x, lengths[i]), due[i]);
                Due.is("buffered()", x.buffered(), 0);
            }
            Due.is("load(0) of nothing", loaded(x, 0), "fails 1");
        });
        s.promise(3, "On success the album replaces the previous one, nobody has a name, nothing "
                + "can be undone, and no state is saved.", () -> {
            CaptionAlbum x = changed();
            CaptionAlbum fresh = Due.album(RICH);
            Due.load(x, RICH);
            fresh.write(1);
            Due.alike("load", x, fresh);
            Due.load(x, SMALL);
            Due.is("everything", Due.everything(x), "1 photos, 0 names, 0 undoable, text row 0: "
                    + "someone.; photo 0: 0 0 9 9");
            allAnew();
        });
        s.promise(3, "Returns the number of photos.", () -> {
            for (int photos = 1; photos <= 5; photos++) {
                Due.is("load", loaded("album gap 1" + ";photo 9 9".repeat(photos)), photos + " 0");
            }
        });
    }

    /** Of five albums, each changed in each way, none leaves anything to the later ones. */
    private static void allAnew() {
        CaptionAlbum x = new CaptionAlbum();
        for (int turn = 0; turn < 5; turn++) {
            Due.load(x, RICH);
            Due.is("everything of album " + turn, Due.everything(x), Due.everything(Due.album(RICH)));
            for (int photo = 0; photo < 2; photo++) {
                x.addPerson(photo, 1, 1);
                x.giveName(photo, 0, photo);
                x.retouch(photo, 0, true);
                x.retouch(photo, 1, true);
                x.crop(photo, 2, 2, 7, 7);
                x.flip(photo);
            }
        }
    }

    /** An album that was changed in each way, with both slots saved and a text written. */
    private static CaptionAlbum changed() {
        CaptionAlbum x = Due.album(RICH);
        x.giveName(0, 1, 1);
        x.save(0);
        x.save(1);
        x.flip(0);
        x.crop(1, 3, 3, 9, 9);
        x.retouch(0, 0, true);
        x.addPerson(0, 2, 2);
        x.write(1);
        return x;
    }

    private static String loaded(String text) {
        CaptionAlbum x = new CaptionAlbum();
        Due.feed(x, text);
        return loaded(x, text.length());
    }

    /** What load returns and the code of the error: "1 0"; "fails 2" if it has an error. */
    private static String loaded(CaptionAlbum x, int n) {
        try {
            return x.load(n) + " " + x.parseError();
        } catch (IllegalArgumentException e) {
            return "fails " + x.parseError();
        }
    }

    private static void refusedLoad(Sentences s) {
        s.promise(3, "Throws `IndexOutOfBoundsException` if n is negative or greater than the number "
                + "of bytes in the buffer; the buffer, parseError() and errorPosition() stay", () -> {
            CaptionAlbum x = new CaptionAlbum();
            Due.index("load(1) of nothing", () -> x.load(1));
            Due.argument("load", () -> Due.load(x, "album gap 1"));
            Due.feed(x, SMALL);
            int[] wrong = {-1, Integer.MIN_VALUE, 41, 1200, 1201, Integer.MAX_VALUE};
            for (int n : wrong) {
                Due.index("load(" + n + ")", () -> x.load(n));
                Due.is("texts", Due.texts(x), "40 bytes, error 5 at 11");
            }
            Due.is("load(40)", x.load(40), 1);
        });
        s.promise(3, "Throws `IllegalArgumentException` if the text has an error; the previous album "
                + "stays", () -> {
            for (int code = 1; code <= 5; code++) {
                String text = WITH_CODES_1_TO_5[code - 1];
                CaptionAlbum x = changed();
                Due.argument("load of " + text, () -> Due.load(x, text));
                Due.alike("load of " + text, x, changed());
            }
            CaptionAlbum x = changed();
            String late = "album gap 0;photo 3 3;photo 2 2;name x y;person 0 1 1;person 0 3 1";
            Due.argument("load of " + late, () -> Due.load(x, late));
            Due.alike("load of " + late, x, changed());
        });
        s.section(7, "load and phrases empty the input buffer and set parseError() and "
                + "errorPosition().", () -> {
            CaptionAlbum x = changed();
            Due.argument("load", () -> Due.load(x, SMALL + ";photo 0 9"));
            Due.is("texts after load", Due.texts(x), "0 bytes, error 2 at 30");
            Due.argument("phrases", () -> Due.phrases(x, 0, "all left ann fox"));
            Due.is("texts after phrases", Due.texts(x), "0 bytes, error 6 at 13");
        });
    }

    private static void errors(Sentences s) {
        s.promise(5, "Returns the error code of the latest call of load or phrases that did not "
                + "throw another exception than IllegalArgumentException.", () -> {
            CaptionAlbum x = new CaptionAlbum();
            Due.argument("load", () -> Due.load(x, "album gap 1"));
            Due.state("phrases without an album", () -> x.phrases(0, 0));
            Due.index("load(1)", () -> x.load(1));
            Due.is("the code stays", x.parseError(), 5);
            Due.load(x, SMALL + ";name a b");
            Due.is("the code after load", x.parseError(), 0);
            Due.argument("phrases", () -> Due.phrases(x, 0, "all left a b"));
            Due.index("phrases of no photo", () -> x.phrases(1, 0));
            Due.index("phrases of too much", () -> x.phrases(0, 1));
            Due.is("the code of phrases stays", x.parseError(), 7);
            x.addPerson(0, 1, 1);
            Due.phrases(x, 0, "all left a b");
            Due.is("the code after phrases", x.parseError(), 0);
        });
        s.promise(5, "Returns the code 1 to 7; 0 if that call succeeded or if there was none.", () -> {
            Due.is("none", new CaptionAlbum().parseError(), 0);
            for (int code = 1; code <= 5; code++) {
                Due.is("code", loaded(WITH_CODES_1_TO_5[code - 1]), "fails " + code);
            }
            CaptionAlbum x = Due.album(SMALL + ";name a b;name b c");
            Due.phrasesFail(x, 0, "between a b c b a b", 6, 10);
            Due.phrasesFail(x, 0, "all left a b", 7, 9);
            Due.argument("load", () -> x.load(0));
            Due.is("code of the album that stays", x.parseError(), 1);
            Due.is("success", loaded(SMALL), "1 0");
        });
        s.promise(6, "Returns the position; NONE if parseError() is 0.", () -> {
            CaptionAlbum x = new CaptionAlbum();
            Due.is("none", x.errorPosition(), -1);
            for (int code = 1; code <= 5; code++) {
                Due.loadFails(WITH_CODES_1_TO_5[code - 1], code, POSITIONS[code - 1]);
            }
            Due.argument("load", () -> x.load(0));
            Due.is("the start", x.errorPosition(), 0);
            Due.load(x, SMALL + ";name a b;person 0 1 1");
            Due.is("success of load", x.errorPosition(), -1);
            Due.phrasesFail(x, 0, "all left a c", 6, 11);
            Due.phrases(x, 0, "all left a b");
            Due.is("success of phrases", x.errorPosition(), -1);
        });
        s.promise(6, "Returns the position of the error of that call.", () -> {
            CaptionAlbum x = new CaptionAlbum();
            Due.argument("load", () -> Due.load(x, "album gap 100"));
            Due.index("load(-1)", () -> x.load(-1));
            Due.state("phrases", () -> x.phrases(0, 0));
            Due.is("it stays", x.errorPosition(), 10);
        });
        s.promise(7, "Returns the number of bytes in the input buffer.", () -> {
            CaptionAlbum x = new CaptionAlbum();
            Due.is("empty", x.buffered(), 0);
            for (int bytes = 20; bytes <= 1200; bytes += 20) {
                x.append(0, 0, 0, 0, 0);
                Due.is("after append", x.buffered(), bytes);
            }
            x.append(0, 0, 0, 0, 0);
            Due.is("full", x.buffered(), 1200);
            Due.argument("load(0)", () -> x.load(0));
            Due.is("after load", x.buffered(), 0);
        });
    }

    private static void tokens(Sentences s) {
        s.section(6, "1: a byte that starts no token", () -> {
            for (int b = 0; b < 256; b++) {
                boolean starts = b == ' ' || b == ';' || b >= '0' && b <= '9';
                String text = SMALL + (char) b;
                if (starts && b != ';') {
                    Due.is("byte " + b, loaded(text), "1 0");
                } else {
                    Due.loadFails(text, 1, starts ? 24 : 23);
                }
            }
        });
        s.section(6, "Tokens are words (1 to 8 lower-case letters), numbers (1 to 4 digits) and the "
                + "single characters ; and , .", () -> {
            Due.is("1 letter, 8 letters", loaded(SMALL + ";name a abcdefgh"), "1 0");
            Due.is("8 letters, 1 letter", loaded(SMALL + ";name zyxwvuts z"), "1 0");
            Due.is("1 digit", loaded("album gap 9;photo 9 9"), "1 0");
            Due.is("4 digits", loaded("album gap 0009;photo 0999 0001"), "1 0");
            CaptionAlbum x = Due.album(SMALL + ";name a b;name c d" + ";person 0 1 1".repeat(3));
            Due.is("; and ,", Due.phrases(x, 0, "all left a b,someone,c d;all right a b"), 3);
            Due.phrasesFail(x, 0, "all left a b.c d", 1, 12);
            Due.phrasesFail(x, 0, "all left a b,;c d", 1, 13);
        });
        s.section(6, "a word of 9 or more letters", () -> {
            int[] lengths = {9, 10, 16, 100, 1160};
            for (int length : lengths) {
                Due.loadFails(SMALL + ";name " + "x".repeat(length) + " b", 1, 29);
                Due.loadFails(SMALL + ";name b " + "x".repeat(length), 1, 31);
                Due.loadFails("x".repeat(length), 1, 0);
            }
            // The first eight letters alone would be a word that the grammar allows there.
            Due.loadFails(SMALL + ";name a abcdefghi;name b c", 1, 31);
            CaptionAlbum x = Due.album(SMALL + ";name abcdefgh b;person 0 1 1");
            Due.phrasesFail(x, 0, "all left abcdefghi b", 1, 9);
        });
        s.section(6, "a number of 5 or more digits", () -> {
            String[] numbers = {"00001", "12345", "0000000000000001", "4294967297"};
            for (String number : numbers) {
                Due.loadFails("album gap " + number + ";photo 9 9", 1, 10);
                Due.loadFails("album gap 1;photo " + number + " 9", 1, 18);
                Due.loadFails("album gap 1;photo 9 " + number, 1, 20);
                Due.loadFails("album gap 1;photo 9 9;person " + number + " 1 1", 1, 29);
                Due.loadFails("album gap 1;photo 9 9;person 0 " + number + " 1", 1, 31);
                Due.loadFails("album gap 1;photo 9 9;person 0 1 " + number, 1, 33);
            }
        });
    }

    private static void runs(Sentences s) {
        s.section(6, "Blanks (byte 32) only separate tokens.", () -> {
            Due.is("many", loaded("   album   gap  1 ;  photo  10   10   "), "1 0");
            Due.is("none", loaded("album gap1;photo10 10;person0 1 1"), "1 0");
            Due.loadFails("alb um gap 1;photo 10 10", 1, 0);
            Due.is("not in numbers", Due.album("album gap 1;photo 2 3").frame(0, 3), 2);
            Due.loadFails("album gap 1;photo 1 2 3", 1, 22);
            Due.loadFails("     ", 1, 5);
            for (int b = 0; b < 256; b++) {
                String text = "album" + (char) b + "gap 1;photo 9 9";
                if (b == ' ') {
                    Due.is("a blank", loaded(text), "1 0");
                } else {
                    Due.loadFails(text, 1, b >= 'a' && b <= 'z' ? 0 : 5);
                }
            }
        });
        s.section(6, "A run of letters ends at the first byte that is not a lower-case letter;", () -> {
            String text = SMALL + ";name a b";
            for (int b = 0; b < 256; b++) {
                boolean fits = b == ' ' || b >= 'a' && b <= 'z';
                if (fits) {
                    Due.is("byte " + b, loaded(text + (char) b), "1 0");
                } else {
                    Due.loadFails(text + (char) b, 1, b == ';' ? 33 : 32);
                }
            }
            Due.is("a digit behind it", loaded("album gap 1;photo10 10;person0 1 1"), "1 0");
        });
        s.section(6, "a run of digits ends at the first byte that is not a digit.", () -> {
            for (int b = 0; b < 256; b++) {
                String text = "album gap 1;photo 1" + (char) b + "2 3";
                if (b == ' ') {
                    Due.loadFails(text, 1, 22);
                } else if (b >= '0' && b <= '9') {
                    Due.is("byte " + b, loaded(text), "1 0");
                } else {
                    Due.loadFails(text, 1, 19);
                }
            }
            Due.is("name behind it", Due.album("album gap 1;photo 5 7;name a b").frame(0, 3), 6);
            Due.loadFails("album gap 1photo 5 7", 1, 11);
        });
    }

    private static void grammar(Sentences s) {
        s.section(6, "text = \"album\" \"gap\" GAP {\";\" line}", () -> {
            Due.is("one line", loaded("album gap 1;photo 1 1"), "1 0");
            Due.is("many lines", loaded("album gap 1" + ";photo 9 9".repeat(5)
                    + ";person 4 1 1".repeat(12) + ";name b c"), "5 0");
            Due.loadFails("gap 1;photo 1 1", 1, 0);
            Due.loadFails("album 1;photo 1 1", 1, 6);
            Due.loadFails("album gap;photo 1 1", 1, 9);
            Due.loadFails("album gap 1 photo 1 1", 1, 12);
            Due.loadFails("album gap 1,photo 1 1", 1, 11);
            Due.loadFails("album gap 1;;photo 1 1", 1, 12);
            Due.loadFails("album gap 1;photo 1 1;", 1, 22);
            Due.loadFails(";album gap 1;photo 1 1", 1, 0);
            Due.loadFails("gap album 1;photo 1 1", 1, 0);
        });
        s.section(6, "line = \"name\" FIRST LAST", () -> {
            Due.loadFails(SMALL + ";name a", 1, 30);
            Due.loadFails(SMALL + ";name a;name b c", 1, 30);
            Due.loadFails(SMALL + ";name a b c", 1, 33);
            Due.loadFails(SMALL + ";name 1 b", 1, 29);
            Due.loadFails(SMALL + ";name a 1", 1, 31);
            Due.loadFails(SMALL + ";names a b", 1, 24);
            Due.is("name name name", loaded(SMALL + ";name name name;name gap album"), "1 0");
        });
        s.section(6, "line = \"photo\" WIDTH HEIGHT", () -> {
            Due.loadFails("album gap 1;photo", 1, 17);
            Due.loadFails("album gap 1;photo 3", 1, 19);
            Due.loadFails("album gap 1;photo 3 x", 1, 20);
            Due.loadFails("album gap 1;photo 3 4 5", 1, 22);
            Due.loadFails("album gap 1;photos 3 4", 1, 12);
            Due.loadFails("album gap 1;phot 3 4", 1, 12);
        });
        s.section(6, "line = \"person\" PHOTO X Y", () -> {
            Due.loadFails(SMALL + ";person", 1, 30);
            Due.loadFails(SMALL + ";person 0", 1, 32);
            Due.loadFails(SMALL + ";person 0 1", 1, 34);
            Due.loadFails(SMALL + ";person 0 1 2 3", 1, 37);
            Due.loadFails(SMALL + ";person a 1 2", 1, 31);
            Due.loadFails(SMALL + ";person 0,1 2", 1, 32);
            Due.loadFails(SMALL + ";persons 0 1 2", 1, 24);
            Due.loadFails(SMALL + ";people 0 1 2", 1, 24);
        });
    }

    private static void bounds(Sentences s) {
        s.section(6, "GAP is 0 to 99;", () -> {
            Due.is("0", loaded("album gap 0;photo 1 1"), "1 0");
            Due.is("99", loaded("album gap 99;photo 1 1"), "1 0");
            Due.is("0000", loaded("album gap 0000;photo 1 1"), "1 0");
            Due.loadFails("album gap 100;photo 1 1", 2, 10);
            Due.loadFails("album gap 0100;photo 1 1", 2, 10);
            Due.loadFails("album gap 9999;photo 1 1", 2, 10);
            rowsWithGap(0, 0, 1);
            rowsWithGap(99, 99, 100);
        });
        s.section(6, "WIDTH and HEIGHT are 1 to 999;", () -> {
            Due.is("1", Due.frame(Due.album("album gap 1;photo 1 1"), 0), "0 0 0 0");
            Due.is("999", Due.frame(Due.album("album gap 1;photo 999 999"), 0), "0 0 998 998");
            Due.loadFails("album gap 1;photo 0 1", 2, 18);
            Due.loadFails("album gap 1;photo 1 0", 2, 20);
            Due.loadFails("album gap 1;photo 1000 1", 2, 18);
            Due.loadFails("album gap 1;photo 1 1000", 2, 20);
            Due.loadFails("album gap 1;photo 0000 1", 2, 18);
        });
        s.section(6, "PHOTO is the number of an earlier photo line;", () -> {
            Due.loadFails("album gap 1;person 0 0 0;photo 9 9", 2, 19);
            Due.loadFails(SMALL + ";person 1 0 0;photo 9 9", 2, 31);
            Due.is("the last", loaded(SMALL + ";photo 9 9;person 1 0 0"), "2 0");
            Due.loadFails(SMALL + ";photo 9 9;person 2 0 0", 2, 41);
            Due.is("the fifth", loaded(SMALL + ";photo 9 9".repeat(4) + ";person 4 8 8"), "5 0");
            Due.loadFails(SMALL + ";photo 9 9".repeat(4) + ";person 5 8 8", 2, 71);
        });
        s.section(6, "X is 0 to WIDTH - 1, Y 0 to HEIGHT - 1 of that photo.", () -> {
            String two = "album gap 1;photo 10 20;photo 30 5;person ";
            Due.is("0 9 19", Due.album(two + "0 9 19").shownAt(0, 0), 9019);
            Due.is("1 29 4", Due.album(two + "1 29 4").shownAt(1, 0), 29004);
            Due.is("1 0 0", Due.album(two + "1 0 0").shownAt(1, 0), 0);
            Due.loadFails(two + "0 10 19", 2, two.length() + 2);
            Due.loadFails(two + "0 9 20", 2, two.length() + 4);
            Due.loadFails(two + "1 30 4", 2, two.length() + 2);
            Due.loadFails(two + "1 29 5", 2, two.length() + 5);
            Due.loadFails("album gap 1;photo 1 1;person 0 1 0", 2, 31);
            Due.loadFails("album gap 1;photo 1 1;person 0 0 1", 2, 33);
        });
    }

    private static void rowsWithGap(int gap, int within, int beyond) {
        String photo = "album gap " + gap + ";photo 999 999;person 0 0 200;person 0 0 ";
        Due.is("one row", Due.album(photo + (200 - within)).rows(0), 1);
        Due.is("two rows", Due.album(photo + (200 - beyond)).rows(0), 2);
    }

    private static String manyNames(int count) {
        StringBuilder names = new StringBuilder(SMALL);
        for (int i = 0; i < count; i++) {
            names.append(";name ").append((char) ('a' + i)).append(" b");
        }
        return names.toString();
    }

    private static void limits(Sentences s) {
        s.section(6, "There are at most 20 names, 5 photos and 12 people of each photo.", () -> {
            Due.is("20 names", Due.album(manyNames(20)).names(), 20);
            Due.is("5 photos", loaded(SMALL + ";photo 1 1".repeat(4)), "5 0");
            CaptionAlbum x = Due.album("album gap 0" + ";photo 9 9".repeat(5)
                    + ";person 0 1 1".repeat(12) + ";person 1 1 1".repeat(12)
                    + ";person 2 1 1".repeat(12) + ";person 3 1 1".repeat(12)
                    + ";person 4 1 1".repeat(12));
            for (int photo = 0; photo < 5; photo++) {
                Due.is("12 people", x.people(photo), 12);
            }
        });
        s.section(6, "4: a 21st name or a sixth photo (at the first word of the line);", () -> {
            String names = manyNames(20);
            String photos = SMALL + ";photo 1 1".repeat(4);
            Due.loadFails(names + ";name u b", 4, names.length() + 1);
            Due.loadFails(names + "; name u b", 4, names.length() + 2);
            Due.loadFails(names + ";name", 4, names.length() + 1);
            Due.loadFails(names + ";name a b", 4, names.length() + 1);
            Due.is("a photo behind 20 names", loaded(names + ";photo 1 1"), "2 0");
            Due.loadFails(photos + ";photo 1 1", 4, photos.length() + 1);
            Due.loadFails(photos + ";photo 0 0", 4, photos.length() + 1);
            Due.loadFails(photos + ";photo", 4, photos.length() + 1);
            Due.is("a name behind 5 photos", loaded(photos + ";name a b"), "5 0");
        });
        s.section(6, "a PHOTO that has 12 people.", () -> {
            String full = SMALL + ";photo 5 5" + ";person 0 1 1".repeat(12);
            Due.loadFails(full + ";person 0 1 1", 4, full.length() + 8);
            Due.loadFails(full + ";person 0", 4, full.length() + 8);
            Due.loadFails(full + ";person 0 10 1", 4, full.length() + 8);
            Due.is("the other photo", loaded(full + ";person 1 1 1".repeat(12)), "2 0");
        });
    }

    private static void firstError(Sentences s) {
        s.section(6, "Parsing stops at the first token, from the left, at which an error is found;",
                () -> {
            Due.loadFails(SMALL + ";name a b;name a b;photo 0 9;?", 3, 40);
            Due.loadFails(SMALL + ";photo 0 9;name a b;name a b", 2, 30);
            Due.loadFails(SMALL + ";photo 0 ?", 2, 30);
            Due.loadFails("album gap 100?", 2, 10);
            Due.loadFails("album gap 1;name a and and", 1, 19);
            CaptionAlbum x = Due.album(SMALL + ";name a b;person 0 1 1");
            Due.phrasesFail(x, 0, "all left a c;row 9", 6, 11);
            Due.phrasesFail(x, 0, "all left a b,a c;row 9", 7, 13);
            Due.phrasesFail(x, 0, "row 1 left ?", 2, 4);
        });
        s.section(6, "if several errors apply to that token, the smallest code is reported.", () -> {
            // 1 and 5; then, in phrases, 1 and 7, 2 and 7, 6 and 7.
            Due.loadFails("album gap 1;", 1, 12);
            CaptionAlbum x = Due.album(SMALL + ";name a b;name c d;person 0 1 1;photo 5 5");
            Due.phrasesFail(x, 1, "all left and b", 1, 9);
            Due.phrasesFail(x, 1, "all left abcdefghi b", 1, 9);
            Due.phrasesFail(x, 0, "all left a b, left", 1, 14);
            Due.phrasesFail(x, 1, "at 0 1000 a b", 2, 5);
            Due.phrasesFail(x, 1, "at 0 a b", 1, 5);
            x.giveName(0, 0, 0);
            Due.phrasesFail(x, 0, "beside a b a b", 1, 11);
            Due.phrasesFail(x, 0, "between a b c d a b", 6, 14);
            Due.phrasesFail(x, 0, "between a b c c a b", 6, 14);
            Due.phrasesFail(x, 0, "between a b c and a b", 1, 14);
        });
        s.section(6, "The position of an error is the index of the token's first byte;", () -> {
            Due.loadFails("  albums gap", 1, 2);
            Due.loadFails("album gap  abcdefghi", 1, 11);
            Due.loadFails("album gap   00001", 1, 12);
            Due.loadFails("album gap 1;  photo   1000 1", 2, 22);
            Due.loadFails("album gap  ?", 1, 11);
        });
        s.section(6, "at the end of the text it is the number of bytes.", () -> {
            Due.loadFails("", 1, 0);
            Due.loadFails("album", 1, 5);
            Due.loadFails("album  ", 1, 7);
            Due.loadFails("album gap 1   ", 5, 14);
            CaptionAlbum x = Due.album(SMALL + ";name a b;person 0 1 1");
            Due.phrasesFail(x, 0, "", 1, 0);
            Due.phrasesFail(x, 0, "all left a   ", 1, 13);
            Due.feed(x, "all left a b");
            Due.argument("phrases(0, 9)", () -> x.phrases(0, 9));
            Due.is("errorPosition() of 9 bytes", x.errorPosition(), 9);
        });
    }

    private static void codes(Sentences s) {
        s.section(6, "a token that the grammar does not allow here (also a FIRST or LAST that is one "
                + "of the words that they are not)", () -> {
            String[] tokens = {"album", "name", "1", ";", ",", "gap"};
            for (String token : tokens) {
                if (!token.equals("album")) {
                    Due.loadFails(token + " gap 1", 1, 0);
                }
                if (!token.equals("gap")) {
                    Due.loadFails("album " + token + " 1", 1, 6);
                }
                if (!token.equals("1")) {
                    Due.loadFails("album gap " + token, 1, 10);
                    Due.loadFails("album gap 1;photo " + token + " 1", 1, 18);
                    Due.loadFails("album gap 1;photo 1 " + token, 1, 20);
                }
                if (!token.equals(";")) {
                    Due.loadFails("album gap 1 " + token, 1, 12);
                    Due.loadFails("album gap 1;photo 1 1 " + token, 1, 22);
                }
            }
            String[] reserved = {
                "and", "someone", "left", "right", "row", "all", "at", "beside", "between"};
            for (String word : reserved) {
                Due.loadFails(SMALL + ";name " + word + " b", 1, 29);
                Due.loadFails(SMALL + ";name a " + word, 1, 31);
                Due.is(word + " and more", loaded(SMALL + ";name a" + word + " b"), "1 0");
            }
        });
        s.section(6, "or the end of the text where it is not complete.", () -> {
            String text = "album gap 1;name a b;photo 9 8;person 0 1 2";
            int[] incomplete = {0, 5, 9, 12, 16, 18, 21, 26, 28, 31, 37, 39, 41};
            for (int n : incomplete) {
                Due.loadFails(text.substring(0, n), 1, n);
                Due.loadFails(text.substring(0, n) + "   ", 1, n + 3);
            }
            Due.loadFails(text.substring(0, 11), 5, 11);
            Due.is("complete at 30", loaded(text.substring(0, 30)), "1 0");
            Due.is("complete at 43", loaded(text), "1 0");
        });
        s.section(6, "2: a number out of its bounds.", () -> {
            Due.loadFails("album gap 100", 2, 10);
            Due.loadFails("album gap 1;photo 0 1", 2, 18);
            Due.loadFails("album gap 1;photo 1 1000", 2, 20);
            Due.loadFails("album gap 1;photo 3 4;person 1 0 0", 2, 29);
            Due.loadFails("album gap 1;photo 3 4;person 0 3 0", 2, 31);
            Due.loadFails("album gap 1;photo 3 4;person 0 0 4", 2, 33);
        });
    }

    private static void codesOfLimits(Sentences s) {
        s.section(6, "3: a LAST that makes a name that an earlier line has told.", () -> {
            String told = SMALL + ";name a b;name c d";
            Due.loadFails(told + ";name a b", 3, told.length() + 8);
            Due.loadFails(told + ";name c  d", 3, told.length() + 9);
            Due.loadFails("album gap 1;name a b;name a b", 3, 28);
            Due.is("other pairs", loaded(told + ";name a d;name c b;name b a;name d c"), "1 0");
            Due.is("parted elsewhere", loaded(SMALL + ";name ab c;name a bc"), "1 0");
            Due.is("the eighth letter", loaded(SMALL + ";name abcdefgh b;name abcdefgi b"
                    + ";name b abcdefgh;name b abcdefgi"), "1 0");
            Due.is("a letter more", loaded(SMALL + ";name a b;name aa b;name a bb"), "1 0");
        });
        s.section(6, "5: at the end of the text: no photo.", () -> {
            Due.loadFails("album gap 1", 5, 11);
            Due.loadFails("album gap 1;name a b;name c d", 5, 29);
            Due.loadFails("album gap 1;name a b ", 5, 21);
            Due.is("a photo at the end", loaded("album gap 1;name a b;photo 1 1"), "1 0");
        });
        s.section(3, "Names are numbered from 0 in the order of the text.", () -> {
            CaptionAlbum x = Due.album("album gap 1;name a bc;photo 1 1;name abc def;name a b");
            Due.is("letters(0)", x.letters(0), 3);
            Due.is("letters(1)", x.letters(1), 6);
            Due.is("letters(2)", x.letters(2), 2);
        });
    }
}
