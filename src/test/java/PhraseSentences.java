/** Promise 4, section 4, and the errors of phrases in section 6. */
final class PhraseSentences {
    private static final String NAMES = "name ann lee;name bob lee;name cy lee;name dee fox;";
    /** Photo 0 has the rows 1 0 2 3 and 4, and the order 1 4 0 3 2; photo 1 has nobody. */
    private static final String LINE = "album gap 5;" + NAMES
            + "photo 100 50;person 0 40 30;person 0 10 32;person 0 70 27;person 0 70 31;"
            + "person 0 20 5;photo 9 9";
    private static final String[] RESERVED = {
        "and", "someone", "left", "right", "row", "all", "at", "beside", "between"};

    private PhraseSentences() {
    }

    static void tell(Sentences s) {
        parsing(s);
        refused(s);
        grammar(s);
        reservedWords(s);
        rowsAndAll(s);
        atPhrases(s);
        besideAndBetween(s);
        boundsOfNumbers(s);
        unknownNames(s);
        nobodyThere(s);
        noNeighbour(s);
    }

    /** The album with ann lee and cy lee round person 0, at the places 0 and 2 of row 0. */
    private static CaptionAlbum named() {
        CaptionAlbum x = Due.album(LINE);
        x.giveName(0, 1, 0);
        x.giveName(0, 2, 2);
        return x;
    }

    private static String namesAfter(String text) {
        CaptionAlbum x = Due.album(LINE);
        Due.phrases(x, 0, text);
        return Due.namesOf(x, 0);
    }

    private static void parsing(Sentences s) {
        s.promise(4, "Parses the first n bytes of the input buffer as phrases, carries them out for a "
                + "photo, and empties the buffer, even if the parse fails.", () -> {
            CaptionAlbum x = Due.album(LINE);
            Due.feed(x, "all left ann lee,bob lee?");
            Due.is("phrases(0, 24)", x.phrases(0, 24), 2);
            Due.is("texts", Due.texts(x), "0 bytes, error 0 at -1");
            Due.feed(x, "all left ann lee,bob lee?");
            Due.is("phrases(0, 16)", x.phrases(0, 16), 1);
            Due.is("buffered()", x.buffered(), 0);
            Due.feed(x, "all left ann lee,bob lee?");
            Due.argument("phrases(0, 25)", () -> x.phrases(0, 25));
            Due.is("texts after the error", Due.texts(x), "0 bytes, error 1 at 24");
            Due.argument("phrases(0, 0) of nothing", () -> x.phrases(0, 0));
            Due.is("texts after nothing", Due.texts(x), "0 bytes, error 1 at 0");
            x.addPerson(1, 3, 3);
            Due.phrases(x, 1, "all left dee fox");
            Due.is("names of the other photo", Due.namesOf(x, 1), "3");
            Due.is("names of the photo", Due.namesOf(x, 0), "- 0 - - 1");
        });
        s.promise(4, "This is a change.", () -> {
            CaptionAlbum x = Due.album(LINE);
            Due.phrases(x, 0, "all left ann lee;all right bob lee");
            Due.is("undoable()", x.undoable(), 1);
            Due.phrases(x, 0, "all left someone");
            Due.is("undoable(), nobody named", x.undoable(), 2);
            Due.phrasesFail(x, 0, "all left ann fox", 6, 13);
            Due.is("undo()", x.undo(), 1);
            Due.is("undo() of both", x.undo(), 0);
            Due.is("names", Due.namesOf(x, 0), "- - - - -");
        });
        s.promise(4, "Returns how many people got a name by them, each time counted.", () -> {
            CaptionAlbum x = Due.album(LINE);
            Due.is("none", Due.phrases(x, 0, "all left someone,someone"), 0);
            Due.is("one", Due.phrases(x, 0, "row 1 left ann lee"), 1);
            Due.is("all", Due.phrases(x, 0, "all left ann and bob and cy lee,dee fox,ann lee"), 5);
            Due.is("twice", Due.phrases(x, 0, "at 0 0 ann lee;at 0 0 bob lee"), 2);
            Due.is("the name that it has", Due.phrases(x, 0, "at 0 0 bob lee"), 1);
            Due.is("two phrases", Due.phrases(x, 0, "all left ann lee;all left ann and bob lee"), 3);
        });
    }

    private static void refused(Sentences s) {
        s.promise(4, "Throws `IllegalStateException` if there is no album; the buffer, parseError() "
                + "and errorPosition() stay", () -> {
            CaptionAlbum x = new CaptionAlbum();
            Due.argument("load", () -> Due.load(x, "album gap 100"));
            Due.feed(x, "all left ann lee");
            int[] numbers = {0, 16, -1, 21};
            for (int n : numbers) {
                Due.state("phrases", () -> x.phrases(0, n));
                Due.state("phrases of no photo", () -> x.phrases(-1, n));
                Due.is("texts", Due.texts(x), "20 bytes, error 2 at 10");
            }
        });
        s.promise(4, "Throws `IndexOutOfBoundsException` if there is no such photo, or n is negative "
                + "or greater than the number of bytes in the buffer; the buffer, parseError() and "
                + "errorPosition() stay", () -> {
            CaptionAlbum x = Due.album(LINE);
            Due.phrasesFail(x, 0, "row 2", 2, 4);
            Due.index("phrases(0, 1) of nothing", () -> x.phrases(0, 1));
            Due.feed(x, "all left ann lee");
            int[] photos = {-1, 2, 5, Integer.MIN_VALUE, Integer.MAX_VALUE};
            int[] lengths = {-1, 21, 1201, Integer.MIN_VALUE, Integer.MAX_VALUE};
            for (int i = 0; i < 5; i++) {
                int photo = photos[i];
                int n = lengths[i];
                Due.index("phrases of no photo", () -> x.phrases(photo, 16));
                Due.index("phrases of no photo, wrong text", () -> x.phrases(photo, 1));
                Due.index("phrases of wrong length", () -> x.phrases(0, n));
                Due.is("texts", Due.texts(x), "20 bytes, error 2 at 4");
            }
            Due.is("phrases(0, 20)", x.phrases(0, 20), 1);
        });
        s.promise(4, "Throws `IllegalArgumentException` if the text has an error; no name changes then",
                () -> {
            String[] texts = {"row 0 left bob lee;all left ann fox", "all left ann and bob fox",
                "at 0 0 ann lee;", "beside ann lee right ann lee;beside ann lee left ann lee;row 7",
                "between ann lee cy lee bob lee,", "all left dee fox?"};
            for (String text : texts) {
                CaptionAlbum x = named();
                x.save(1);
                x.write(1);
                CaptionAlbum y = named();
                y.save(1);
                y.write(1);
                Due.argument("phrases of " + text, () -> Due.phrases(x, 0, text));
                Due.alike("phrases of " + text, x, y);
            }
        });
    }

    private static void grammar(Sentences s) {
        s.section(4, "phrases = phrase {\";\" phrase}", () -> {
            CaptionAlbum x = named();
            Due.phrasesFail(x, 0, "", 1, 0);
            Due.phrasesFail(x, 0, ";", 1, 0);
            Due.phrasesFail(x, 0, "all left ann lee;", 1, 17);
            Due.phrasesFail(x, 0, "all left ann lee;;all left ann lee", 1, 17);
            Due.phrasesFail(x, 0, "all left ann lee all left ann lee", 1, 17);
            Due.phrasesFail(x, 0, "at 0 0 ann lee,at 0 0 ann lee", 1, 14);
            Due.phrasesFail(x, 0, "ann lee", 1, 0);
            Due.is("many", Due.phrases(x, 0, "all left someone;".repeat(60) + "at 0 0 ann lee"), 1);
        });
        s.section(4, "phrase = \"row\" ROW side item {\",\" item}", () -> {
            CaptionAlbum x = named();
            Due.phrasesFail(x, 0, "row", 1, 3);
            Due.phrasesFail(x, 0, "row left ann lee", 1, 4);
            Due.phrasesFail(x, 0, "row 0", 1, 5);
            Due.phrasesFail(x, 0, "row 0 ann lee", 1, 6);
            Due.phrasesFail(x, 0, "row 0 left", 1, 10);
            Due.phrasesFail(x, 0, "row 0 left ,", 1, 11);
            Due.phrasesFail(x, 0, "row 0 left ann lee,", 1, 19);
            Due.phrasesFail(x, 0, "row 0 left ann lee,,bob lee", 1, 19);
            Due.phrasesFail(x, 0, "row 0 left left ann lee", 1, 11);
            Due.phrasesFail(x, 0, "rows 0 left ann lee", 1, 0);
        });
        s.section(4, "phrase = \"all\" side item {\",\" item}", () -> {
            CaptionAlbum x = named();
            Due.phrasesFail(x, 0, "all", 1, 3);
            Due.phrasesFail(x, 0, "all 0 left ann lee", 1, 4);
            Due.phrasesFail(x, 0, "all ann lee", 1, 4);
            Due.phrasesFail(x, 0, "all right", 1, 9);
            Due.phrasesFail(x, 0, "all right ann lee bob lee", 1, 18);
        });
        s.section(4, "phrase = \"at\" X Y full", () -> {
            CaptionAlbum x = named();
            Due.phrasesFail(x, 0, "at", 1, 2);
            Due.phrasesFail(x, 0, "at 1", 1, 4);
            Due.phrasesFail(x, 0, "at 1 1", 1, 6);
            Due.phrasesFail(x, 0, "at 1 1 someone", 1, 7);
            Due.phrasesFail(x, 0, "at 1 1 ann", 1, 10);
            Due.phrasesFail(x, 0, "at 1 1 ann and bob lee", 1, 11);
            Due.phrasesFail(x, 0, "at 1 1 1 ann lee", 1, 7);
        });
        s.section(4, "phrase = \"beside\" full side full", () -> {
            CaptionAlbum x = named();
            Due.phrasesFail(x, 0, "beside", 1, 6);
            Due.phrasesFail(x, 0, "beside ann", 1, 10);
            Due.phrasesFail(x, 0, "beside ann lee", 1, 14);
            Due.phrasesFail(x, 0, "beside ann lee right", 1, 20);
            Due.phrasesFail(x, 0, "beside ann lee right bob", 1, 24);
            Due.phrasesFail(x, 0, "beside ann lee right bob lee left", 1, 29);
            Due.phrasesFail(x, 0, "beside left ann lee bob lee", 1, 7);
        });
        s.section(4, "phrase = \"between\" full full full", () -> {
            CaptionAlbum x = named();
            Due.phrasesFail(x, 0, "between", 1, 7);
            Due.phrasesFail(x, 0, "between ann lee", 1, 15);
            Due.phrasesFail(x, 0, "between ann lee cy", 1, 18);
            Due.phrasesFail(x, 0, "between ann lee cy lee", 1, 22);
            Due.phrasesFail(x, 0, "between ann lee cy lee bob", 1, 26);
            Due.phrasesFail(x, 0, "between ann lee cy lee bob lee dee fox", 1, 31);
            Due.phrasesFail(x, 0, "between ann lee,cy lee bob lee", 1, 15);
        });
        s.section(4, "item = \"someone\" | FIRST {\"and\" FIRST} LAST", () -> {
            CaptionAlbum x = named();
            Due.phrasesFail(x, 0, "all left someone lee", 1, 17);
            Due.phrasesFail(x, 0, "all left someone and ann lee", 1, 17);
            Due.phrasesFail(x, 0, "all left ann and someone", 1, 17);
            Due.phrasesFail(x, 0, "all left and ann lee", 1, 9);
            Due.phrasesFail(x, 0, "all left ann and and bob lee", 1, 17);
            Due.phrasesFail(x, 0, "all left ann and", 1, 16);
            Due.phrasesFail(x, 0, "all left ann,bob lee", 1, 12);
            Due.phrasesFail(x, 0, "all left ann lee and bob lee", 1, 17);
            Due.is("one FIRST", Due.phrases(x, 0, "all left ann lee"), 1);
            Due.is("three FIRST", Due.phrases(x, 0, "all left ann and bob and cy lee"), 3);
        });
        s.section(4, "full = FIRST LAST side = \"left\" | \"right\"", () -> {
            CaptionAlbum x = named();
            Due.phrasesFail(x, 0, "all lefts ann lee", 1, 4);
            Due.phrasesFail(x, 0, "all righ ann lee", 1, 4);
            Due.phrasesFail(x, 0, "all 0 ann lee", 1, 4);
            Due.is("left", Due.phrases(x, 0, "all left ann lee"), 1);
            Due.is("right", Due.phrases(x, 0, "all right ann lee"), 1);
        });
    }

    private static void reservedWords(Sentences s) {
        s.section(4, "FIRST and LAST are words other than and, someone, left, right, row, all, at, "
                + "beside and between.", () -> {
            String[] texts = {"row 0 left # lee", "row 0 left ann #", "row 0 left ann and # lee",
                "row 0 left ann and bob #", "all right # lee", "all right ann #", "at 1 1 # lee",
                "at 1 1 ann #", "beside # lee right bob lee", "beside ann # right bob lee",
                "beside ann lee right # lee", "beside ann lee right bob #",
                "between # lee cy lee bob lee", "between ann # cy lee bob lee",
                "between ann lee # lee bob lee", "between ann lee cy # bob lee",
                "between ann lee cy lee # lee", "between ann lee cy lee bob #"};
            for (String text : texts) {
                for (String word : RESERVED) {
                    reservedWord(text, word);
                }
            }
            CaptionAlbum x = Due.album("album gap 1;name album gap;name name photo;name ands person;"
                    + "photo 9 9" + ";person 0 1 1".repeat(3));
            Due.is("other words", Due.phrases(x, 0, "all left album gap,name photo,ands person"), 3);
        });
    }

    private static void reservedWord(String text, String word) {
        boolean inItem = text.startsWith("row") || text.startsWith("all");
        boolean asFirst = text.endsWith("# lee");
        int at = text.indexOf('#');
        if (inItem && !asFirst && word.equals("and")) {
            // Here and is what the grammar allows, and the end of the text comes too early.
            Due.phrasesFail(named(), 0, text.replace("#", word), 1, at + 3);
        } else if (inItem && asFirst && word.equals("someone") && !text.contains("and")) {
            Due.phrasesFail(named(), 0, text.replace("#", word), 1, at + 8);
        } else {
            Due.phrasesFail(named(), 0, text.replace("#", word), 1, at);
        }
    }

    private static void rowsAndAll(Sentences s) {
        s.section(4, "In an item, each FIRST makes a name together with LAST.", () -> {
            Due.is("one", namesAfter("all left cy lee"), "- 2 - - -");
            Due.is("three", namesAfter("all left cy and ann and bob lee"), "1 2 - - 0");
            Due.is("the same twice", namesAfter("all left ann and ann lee"), "- - - - 0");
        });
        s.section(4, "The phrases are carried out one after the other.", () -> {
            Due.is("the later one counts", namesAfter("at 0 0 ann lee;at 0 0 bob lee"), "- - - - 1");
            Due.is("beside by a name of before",
                    namesAfter("row 0 left ann lee;beside ann lee right bob lee"), "1 0 - - -");
            Due.is("between by names of before", namesAfter(
                    "row 0 left ann lee;row 0 right bob lee;beside bob lee left cy lee;"
                    + "between ann lee cy lee dee fox"), "3 0 2 1 -");
            Due.phrasesFail(Due.album(LINE), 0, "beside ann lee right bob lee;row 0 left ann lee",
                    6, 11);
            Due.phrasesFail(named(), 0, "all left bob lee;beside ann lee right dee fox", 6, 28);
        });
        s.section(4, "A row phrase names the people of a row, an all phrase those of the picture (in "
                + "the order of all people), from the given side: each name of its items is for the "
                + "next person;", () -> {
            Due.is("row 0 left", namesAfter("row 0 left ann and bob and cy lee,dee fox"), "1 0 2 3 -");
            Due.is("row 0 right", namesAfter("row 0 right ann and bob and cy lee,dee fox"), "2 3 1 0 -");
            Due.is("row 1 left", namesAfter("row 1 left ann lee"), "- - - - 0");
            Due.is("row 1 right", namesAfter("row 1 right ann lee"), "- - - - 0");
            Due.is("all left", namesAfter("all left ann and bob and cy lee,dee fox"), "2 0 - 3 1");
            Due.is("all right", namesAfter("all right ann and bob and cy lee,dee fox"), "2 - 0 1 3");
        });
        s.section(4, "someone passes over the next person.", () -> {
            Due.is("the first", namesAfter("row 0 left someone,ann lee"), "0 - - - -");
            Due.is("two", namesAfter("row 0 left ann lee,someone,someone,bob lee"), "- 0 - 1 -");
            Due.is("the last", namesAfter("row 0 left ann lee,someone,cy lee,someone"), "- 0 2 - -");
            Due.is("from the right", namesAfter("all right someone,ann lee"), "- - - 0 -");
            CaptionAlbum x = named();
            Due.phrases(x, 0, "row 0 left someone,bob lee");
            Due.is("who is passed over keeps the name", Due.namesOf(x, 0), "1 0 2 - -");
        });
        s.section(4, "each name of its items is for the next person;", () -> {
            CaptionAlbum x = Due.album("album gap 0;name a b;photo 20 20"
                    + ";person 0 1 1".repeat(12));
            Due.is("a row of 12", Due.phrases(x, 0, "row 0 left a" + " and a".repeat(11) + " b"), 12);
            Due.is("the last has it", x.who(0, 0), 11);
            Due.is("12 items", Due.phrases(x, 0, "all right a b" + ",a b".repeat(11)), 12);
            Due.is("the first has it", x.who(0, 0), 0);
        });
    }

    private static void atPhrases(Sentences s) {
        s.section(4, "An at phrase names the person in the picture whose shown position is nearest to "
                + "(X, Y) (by the square of the distance; of several the smallest number).", () -> {
            Due.is("at the position", namesAfter("at 10 32 ann lee"), "- 0 - - -");
            Due.is("between two, the smaller number", namesAfter("at 70 29 ann lee"), "- - 0 - -");
            Due.is("by the square", squares("at 0 0 a b"), "- 0 -");
            Due.is("equal squares", squares("at 6 6 a b"), "0 - -");
            Due.is("far away", namesAfter("at 999 999 ann lee"), "- - - 0 -");
            CaptionAlbum x = Due.album(LINE);
            x.crop(0, 20, 0, 99, 49);
            Due.phrases(x, 0, "at 0 32 ann lee");
            Due.is("cropped", Due.namesOf(x, 0), "0 - - - -");
            x.retouch(0, 0, true);
            Due.phrases(x, 0, "at 0 32 bob lee");
            Due.is("retouched", Due.namesOf(x, 0), "0 - - - 1");
            x.flip(0);
            Due.phrases(x, 0, "at 79 5 cy lee");
            Due.is("flipped", Due.namesOf(x, 0), "0 - - - 2");
        });
    }

    /** The squares of the distances to (0, 0) are 100, 98 and 100, to (6, 6) 52, 2 and 52. */
    private static String squares(String text) {
        CaptionAlbum x = Due.album("album gap 0;name a b;photo 20 20;person 0 0 10;person 0 7 7;"
                + "person 0 10 0");
        if (text.startsWith("at 6")) {
            x.retouch(0, 1, true);
        }
        Due.phrases(x, 0, text);
        return Due.namesOf(x, 0);
    }

    private static void besideAndBetween(Sentences s) {
        s.section(4, "A beside phrase gives the second name to the left or right neighbour of the "
                + "person who has the first name.", () -> {
            CaptionAlbum x = Due.album(LINE);
            x.giveName(0, 0, 0);
            Due.phrases(x, 0, "beside ann lee left bob lee");
            Due.phrases(x, 0, "beside ann lee right cy lee");
            Due.is("both sides", Due.namesOf(x, 0), "0 1 2 - -");
            Due.phrases(x, 0, "beside cy lee right ann lee");
            Due.is("the first again", Due.namesOf(x, 0), "- 1 2 0 -");
            Due.phrases(x, 0, "beside ann lee left ann lee");
            Due.is("the same name", Due.namesOf(x, 0), "- 1 0 - -");
        });
        s.section(4, "A between phrase gives the third name to the person between the two people who "
                + "have the first two names, if these stand in one row and exactly one person stands "
                + "between them.", () -> {
            CaptionAlbum x = named();
            Due.phrases(x, 0, "between ann lee cy lee bob lee");
            Due.is("one way", Due.namesOf(x, 0), "1 0 2 - -");
            Due.phrases(x, 0, "between cy lee ann lee dee fox");
            Due.is("the other way", Due.namesOf(x, 0), "3 0 2 - -");
            Due.phrases(x, 0, "between cy lee ann lee cy lee");
            Due.is("one of the two names", Due.namesOf(x, 0), "2 0 - - -");
            Due.phrasesFail(x, 0, "between ann lee cy lee bob lee", 7, 19);
            x.giveName(0, 3, 1);
            Due.phrasesFail(x, 0, "between ann lee bob lee cy lee", 7, 20);
            x.retouch(0, 2, true);
            Due.is("nobody else is between", Due.phrases(x, 0, "between ann lee bob lee dee fox"), 1);
            Due.is("names", Due.namesOf(x, 0), "3 0 - 1 -");
        });
        s.section(2, "The left neighbour of a person is the one with the place before in the same row, "
                + "the right neighbour the one with the place behind.", () -> {
            CaptionAlbum x = Due.album(LINE);
            String[] people = {"ann lee", "bob lee", "cy lee", "dee fox"};
            int[] inRow = {1, 0, 2, 3};
            for (int place = 0; place < 4; place++) {
                x.giveName(0, inRow[place], place);
            }
            for (int place = 0; place < 4; place++) {
                String full = people[place];
                int side = 7 + full.length() + 1;
                if (place == 0) {
                    Due.phrasesFail(x, 0, "beside " + full + " left bob lee", 7, side);
                } else {
                    Due.phrases(x, 0, "beside " + full + " left " + people[place - 1]);
                }
                if (place == 3) {
                    Due.phrasesFail(x, 0, "beside " + full + " right bob lee", 7, side);
                } else {
                    Due.phrases(x, 0, "beside " + full + " right " + people[place + 1]);
                }
            }
            Due.is("names", Due.namesOf(x, 0), "1 0 2 3 -");
        });
    }

    private static void boundsOfNumbers(Sentences s) {
        s.section(6, "In phrases, numbers have these bounds: ROW is that of a row that there is", () -> {
            CaptionAlbum x = Due.album(LINE);
            Due.is("row 0", Due.phrases(x, 0, "row 0 left ann lee"), 1);
            Due.is("row 0001", Due.phrases(x, 0, "row 0001 left ann lee"), 1);
            Due.phrasesFail(x, 0, "row 2 left ann lee", 2, 4);
            Due.phrasesFail(x, 0, "row 9999 left ann lee", 2, 4);
            Due.phrasesFail(x, 1, "row 0 left someone", 2, 4);
            x.crop(0, 0, 10, 99, 49);
            Due.phrasesFail(x, 0, "row 1 left ann lee", 2, 4);
            x.retouch(0, 4, true);
            Due.is("row 0, cropped", Due.phrases(x, 0, "row 0 left ann lee"), 1);
        });
        s.section(6, "X and Y are 0 to 999.", () -> {
            CaptionAlbum x = Due.album(LINE);
            Due.is("0 0", Due.phrases(x, 0, "at 0 0 ann lee"), 1);
            Due.is("999 999", Due.phrases(x, 0, "at 999 0999 ann lee"), 1);
            Due.phrasesFail(x, 0, "at 1000 0 ann lee", 2, 3);
            Due.phrasesFail(x, 0, "at 0 1000 ann lee", 2, 5);
            Due.phrasesFail(x, 0, "at 9999 0 ann lee", 2, 3);
            Due.phrasesFail(x, 0, "at 0 9999 ann lee", 2, 5);
            Due.phrasesFail(x, 0, "at 00000 0 ann lee", 1, 3);
        });
        s.section(6, "The errors of phrases are found in the same way, with the codes 1 and 2 and:",
                () -> {
            CaptionAlbum x = Due.album(LINE);
            Due.phrasesFail(x, 0, "all left ann lee?", 1, 16);
            Due.phrasesFail(x, 0, "all left ann lee ?", 1, 17);
            Due.phrasesFail(x, 0, "all left ann " + (char) 0xec + "ee", 1, 13);
            Due.phrasesFail(x, 0, "all left annannann lee", 1, 9);
            Due.phrasesFail(x, 0, "row 00000 left ann lee", 1, 4);
            Due.phrasesFail(x, 0, "   ", 1, 3);
            Due.phrasesFail(x, 0, "  row 2 left", 2, 6);
        });
    }

    private static void unknownNames(Sentences s) {
        s.section(6, "6: a LAST that makes no name together with one of its FIRST;", () -> {
            CaptionAlbum x = named();
            Due.phrasesFail(x, 0, "all left ann fox", 6, 13);
            Due.phrasesFail(x, 0, "all left dee lee", 6, 13);
            Due.phrasesFail(x, 0, "all left lee ann", 6, 13);
            Due.phrasesFail(x, 0, "all left dee and ann lee", 6, 21);
            Due.phrasesFail(x, 0, "all left ann and dee lee", 6, 21);
            Due.phrasesFail(x, 0, "all left ann and dee and bob lee", 6, 29);
            Due.phrasesFail(x, 0, "all left ann lee,bob fox", 6, 21);
            Due.phrasesFail(x, 0, "row 0 left ann fox", 6, 15);
            Due.phrasesFail(x, 0, "at 0 0 ann fox", 6, 11);
            Due.phrasesFail(x, 0, "beside ann fox left bob lee", 6, 11);
            Due.phrasesFail(x, 0, "beside ann lee right bob fox", 6, 25);
            Due.phrasesFail(x, 0, "between ann fox cy lee bob lee", 6, 12);
            Due.phrasesFail(x, 0, "between ann lee cy fox bob lee", 6, 19);
            Due.phrasesFail(x, 0, "between ann lee cy lee bob fox", 6, 27);
            CaptionAlbum y = Due.album("album gap 1;photo 9 9;person 0 1 1");
            Due.phrasesFail(y, 0, "all left a b", 6, 11);
        });
        s.section(6, "in a beside or between phrase the LAST of one of the first names (the first one, "
                + "or the first two) that no person in the picture has.", () -> {
            CaptionAlbum x = named();
            Due.phrasesFail(x, 0, "beside bob lee right ann lee", 6, 11);
            Due.phrasesFail(x, 0, "between bob lee cy lee ann lee", 6, 12);
            Due.phrasesFail(x, 0, "between ann lee bob lee cy lee", 6, 20);
            Due.is("the second of beside", Due.phrases(x, 0, "beside ann lee right dee fox"), 1);
            Due.is("the third of between", Due.phrases(x, 0, "between ann lee cy lee bob lee"), 1);
            x.retouch(0, 1, true);
            Due.phrasesFail(x, 0, "beside ann lee right bob lee", 6, 11);
            Due.phrasesFail(x, 0, "between ann lee cy lee bob lee", 6, 12);
            Due.phrasesFail(x, 0, "between cy lee ann lee bob lee", 6, 19);
            x.retouch(0, 1, false);
            x.crop(0, 11, 0, 99, 49);
            Due.phrasesFail(x, 0, "beside ann lee right bob lee", 6, 11);
            Due.phrasesFail(x, 0, "between cy lee ann lee bob lee", 6, 19);
            x.addPerson(1, 1, 1);
            x.giveName(1, 0, 3);
            Due.phrasesFail(x, 0, "beside dee fox right bob lee", 6, 11);
        });
    }

    private static void nobodyThere(Sentences s) {
        s.section(6, "7: the FIRST of a name, or the word someone, for which there is no person any "
                + "more;", () -> {
            CaptionAlbum x = Due.album(LINE);
            Due.phrasesFail(x, 0, "row 1 left ann lee,bob lee", 7, 19);
            Due.phrasesFail(x, 0, "row 1 left ann and bob lee", 7, 19);
            Due.phrasesFail(x, 0, "row 1 left ann and dee and bob lee", 7, 19);
            Due.phrasesFail(x, 0, "row 1 left someone,bob lee", 7, 19);
            Due.phrasesFail(x, 0, "row 1 left someone,someone", 7, 19);
            Due.phrasesFail(x, 0, "row 1 right ann lee,someone", 7, 20);
            Due.phrasesFail(x, 0, "row 0 left " + "someone,".repeat(4) + "someone", 7, 43);
            Due.phrasesFail(x, 0, "all left " + "someone,".repeat(5) + "ann lee", 7, 49);
            Due.phrasesFail(x, 1, "all left ann lee", 7, 9);
            Due.phrasesFail(x, 1, "all right someone", 7, 10);
            Due.is("the last person", Due.phrases(x, 0, "row 0 left " + "someone,".repeat(3)
                    + "ann lee"), 1);
            x.retouch(0, 4, true);
            Due.phrasesFail(x, 0, "all left " + "someone,".repeat(4) + "someone", 7, 41);
        });
        s.section(6, "7: the FIRST of a name", () -> {
            CaptionAlbum x = Due.album("album gap 0;name a b;photo 20 20"
                    + ";person 0 1 1".repeat(12));
            String twelve = "all left a" + " and a".repeat(11);
            Due.phrasesFail(x, 0, twelve + " and a b", 7, twelve.length() + 5);
            Due.phrasesFail(x, 0, twelve + " and c b", 7, twelve.length() + 5);
            Due.phrasesFail(x, 0, twelve + " b,a b", 7, twelve.length() + 3);
            Due.phrasesFail(x, 0, twelve + " b,someone", 7, twelve.length() + 3);
            Due.phrasesFail(x, 0, "all left" + " someone,".repeat(12) + "someone", 7, 116);
        });
        s.section(6, "in an at phrase, the Y if nobody is in the picture.", () -> {
            CaptionAlbum x = Due.album("album gap 1;name a b;photo 9 9;photo 9 9;person 1 1 1;"
                    + "photo 9 9;person 2 1 1");
            Due.phrasesFail(x, 0, "at 0 0 a b", 7, 5);
            Due.phrasesFail(x, 0, "at 999 999", 7, 7);
            x.crop(1, 2, 2, 8, 8);
            Due.phrasesFail(x, 1, "at 0 0 a b", 7, 5);
            x.retouch(2, 0, true);
            Due.phrasesFail(x, 2, "at 0 0 a b", 7, 5);
            x.retouch(2, 0, false);
            Due.is("one person", Due.phrases(x, 2, "at 0 0 a b"), 1);
        });
    }

    private static void noNeighbour(Sentences s) {
        s.section(6, "the side of a beside phrase on which there is no neighbour;", () -> {
            CaptionAlbum x = named();
            x.giveName(0, 3, 1);
            x.giveName(0, 4, 3);
            Due.phrasesFail(x, 0, "beside ann lee left bob lee", 7, 15);
            Due.phrasesFail(x, 0, "beside bob lee right ann lee", 7, 15);
            Due.phrasesFail(x, 0, "beside dee fox left ann lee", 7, 15);
            Due.phrasesFail(x, 0, "beside dee fox right ann lee", 7, 15);
            Due.phrasesFail(x, 0, "beside ann lee left", 7, 15);
            x.retouch(0, 3, true);
            Due.phrasesFail(x, 0, "beside cy lee right ann lee", 7, 14);
            x.crop(0, 15, 0, 99, 49);
            x.giveName(0, 0, 0);
            Due.phrasesFail(x, 0, "beside ann lee left bob lee", 7, 15);
            x.flip(0);
            Due.phrasesFail(x, 0, "beside ann lee right bob lee", 7, 15);
        });
        s.section(6, "the LAST of the second name of a between phrase if the two people do not stand in "
                + "one row with exactly one person between them;", () -> {
            CaptionAlbum x = named();
            x.giveName(0, 3, 1);
            x.giveName(0, 4, 3);
            Due.phrasesFail(x, 0, "between cy lee bob lee ann lee", 7, 19);
            Due.phrasesFail(x, 0, "between bob lee cy lee ann lee", 7, 19);
            Due.phrasesFail(x, 0, "between ann lee bob lee cy lee", 7, 20);
            Due.phrasesFail(x, 0, "between bob lee ann lee cy lee", 7, 20);
            Due.phrasesFail(x, 0, "between ann lee dee fox cy lee", 7, 20);
            Due.phrasesFail(x, 0, "between dee fox cy lee ann lee", 7, 19);
            Due.phrasesFail(x, 0, "between ann lee ann lee cy lee", 7, 20);
            Due.phrasesFail(x, 0, "between ann lee ann lee", 7, 20);
            rowsOfThree();
        });
    }

    /** People at the places 0 and 2 of two rows are not in one row. */
    private static void rowsOfThree() {
        CaptionAlbum x = Due.album("album gap 0;name a b;name c d;photo 9 9;person 0 1 8;person 0 2 8;"
                + "person 0 3 8;person 0 1 1;person 0 2 1;person 0 3 1");
        x.giveName(0, 0, 0);
        x.giveName(0, 5, 1);
        Due.phrasesFail(x, 0, "between a b c d a b", 7, 14);
        x.giveName(0, 2, 1);
        Due.is("one row", Due.phrases(x, 0, "between a b c d a b"), 1);
        Due.is("names", Due.namesOf(x, 0), "- 0 1 - - -");
    }
}
