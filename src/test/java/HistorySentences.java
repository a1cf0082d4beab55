/** Promises 49 to 52, and what section 7 says of the state and of undo. */
final class HistorySentences {
    private static final String ALBUM = "album gap 10;name ann lee;name bob lee;name cy fox;"
            + "photo 100 80;person 0 10 60;person 0 50 62;person 0 30 20;person 0 90 55;"
            + "photo 50 50;person 1 10 40;person 1 40 42;person 1 5 5;person 1 9 5;photo 9 9";
    private static final String[] CHANGES = {"phrases", "crop", "flip", "uncrop", "retouch",
        "addPerson", "giveName", "copyNames"};

    private HistorySentences() {
    }

    static void tell(Sentences s) {
        undo(s);
        undoable(s);
        latestSix(s);
        whatEndsUndo(s);
        save(s);
        restore(s);
        refused(s);
        state(s);
        longRun(s);
    }

    private static CaptionAlbum album() {
        CaptionAlbum x = Due.album(ALBUM);
        x.giveName(1, 0, 0);
        x.crop(0, 1, 1, 95, 70);
        x.flip(1);
        return x;
    }

    private static void change(CaptionAlbum x, int kind) {
        switch (CHANGES[kind]) {
            case "phrases" -> Due.phrases(x, 0, "all left bob lee,ann lee");
            case "crop" -> x.crop(0, 0, 0, 50, 60);
            case "flip" -> x.flip(0);
            case "uncrop" -> x.uncrop(0);
            case "retouch" -> x.retouch(1, 1, true);
            case "addPerson" -> x.addPerson(2, 3, 4);
            case "giveName" -> x.giveName(1, 3, 2);
            default -> x.copyNames(0, 1);
        }
    }

    private static void undo(Sentences s) {
        s.promise(49, "Undoes the latest change that has not been undone.", () -> {
            for (int kind = 0; kind < CHANGES.length; kind++) {
                CaptionAlbum x = album();
                change(x, kind);
                String changed = Due.everything(x);
                Due.is(CHANGES[kind] + " changes", changed.equals(Due.everything(album())), false);
                Due.is("undo() of " + CHANGES[kind], x.undo(), 3);
                Due.is("undone " + CHANGES[kind], Due.everything(x), Due.everything(album()));
            }
        });
        s.promise(49, "Returns the number of changes that can still be undone.", () -> {
            CaptionAlbum x = Due.album(ALBUM);
            for (int i = 0; i < 6; i++) {
                x.flip(0);
            }
            for (int left = 5; left >= 0; left--) {
                Due.is("undo()", x.undo(), left);
                Due.is("undoable()", x.undoable(), left);
            }
        });
        s.promise(49, "Throws `IllegalStateException` if there is none", () -> {
            CaptionAlbum none = new CaptionAlbum();
            Due.state("no album", () -> none.undo());
            CaptionAlbum x = Due.album(ALBUM);
            Due.state("no change", () -> x.undo());
            x.flip(0);
            x.undo();
            Due.state("undone already", () -> x.undo());
            Due.is("nothing happened", x.isFlipped(0), false);
        });
        s.section(7, "The methods that are documented as changes can be undone, the latest one first.",
                () -> {
            for (int first = 0; first < 5; first++) {
                CaptionAlbum x = Due.album(ALBUM);
                x.giveName(1, 0, 0);
                String[] states = new String[4];
                for (int i = 0; i < 4; i++) {
                    states[i] = Due.everything(x);
                    change(x, first + i);
                }
                for (int i = 3; i >= 0; i--) {
                    x.undo();
                    Due.is("after undo of " + CHANGES[first + i], Due.everything(x), states[i]);
                }
            }
        });
    }

    private static void undoable(Sentences s) {
        s.promise(50, "Returns the number of changes that can be undone, 0 to 6.", () -> {
            Due.is("no album", new CaptionAlbum().undoable(), 0);
            CaptionAlbum x = Due.album(ALBUM);
            for (int i = 0; i <= 8; i++) {
                Due.is("undoable()", x.undoable(), Math.min(i, 6));
                change(x, i % CHANGES.length);
            }
            x.undo();
            Due.is("undoable(), undone", x.undoable(), 5);
            x.flip(0);
            Due.is("undoable(), changed again", x.undoable(), 6);
        });
        s.section(7, "The state consists of everything that changes alter.", () -> {
            CaptionAlbum x = album();
            x.write(0);
            x.save(0);
            Due.feed(x, "all left");
            x.flip(0);
            x.save(1);
            Due.is("undo()", x.undo(), 3);
            Due.is("the buffer is not of it", x.buffered(), 20);
            Due.is("the text is not of it", x.writtenByte(0), (int) 'r');
            Due.is("saved states are not of it", x.restore(1), 8);
            Due.is("isFlipped(0), restored", x.isFlipped(0), true);
            Due.is("the buffer stays", x.buffered(), 20);
        });
    }

    private static void latestSix(Sentences s) {
        s.section(7, "Only the latest 6 changes since the last successful call of load or restore are kept "
                + "for this.", () -> {
            for (int changes = 5; changes <= 14; changes++) {
                CaptionAlbum x = Due.album(ALBUM);
                String[] states = new String[changes + 1];
                for (int i = 0; i < changes; i++) {
                    states[i] = Due.namesOf(x, 0);
                    x.giveName(0, i % 4, (i * i + i) / 2 % 3);
                }
                int kept = Math.min(changes, 6);
                Due.is("undoable()", x.undoable(), kept);
                for (int i = changes - 1; i >= changes - kept; i--) {
                    x.undo();
                    Due.is("names after " + i + " changes", Due.namesOf(x, 0), states[i]);
                }
                Due.state("the change before", () -> x.undo());
            }
            CaptionAlbum y = Due.album(ALBUM);
            for (int turn = 0; turn < 4; turn++) {
                y.flip(0);
                y.flip(1);
                Due.is("undo()", y.undo(), turn + 1);
            }
            Due.is("those that are undone do not count", y.undoable(), 4);
        });
    }

    private static void whatEndsUndo(Sentences s) {
        s.section(7, "changes since the last successful call of load or restore", () -> {
            CaptionAlbum x = album();
            x.save(0);
            Due.argument("load that fails", () -> Due.load(x, "album gap 1"));
            Due.is("after a load that fails", x.undoable(), 3);
            Due.state("restore that fails", () -> x.restore(1));
            Due.index("restore of no slot", () -> x.restore(2));
            Due.is("after a restore that fails", x.undoable(), 3);
            x.save(0);
            Due.is("after save", x.undoable(), 3);
            x.restore(0);
            Due.is("after restore", x.undoable(), 0);
            x.flip(0);
            Due.is("undo() of what is behind it", x.undo(), 0);
            Due.state("undo() of what is before it", () -> x.undo());
            x.flip(0);
            Due.load(x, ALBUM);
            Due.is("after load", x.undoable(), 0);
            Due.state("undo() of what is before load", () -> x.undo());
        });
    }

    private static void save(Sentences s) {
        s.promise(51, "`slot`: 0 or 1", () -> {
            CaptionAlbum x = album();
            Due.is("save(0)", x.save(0), 8);
            x.retouch(0, 0, true);
            Due.is("save(1)", x.save(1), 7);
            x.retouch(0, 1, true);
            Due.is("restore(0)", x.restore(0), 8);
            Due.is("restore(1)", x.restore(1), 7);
            Due.is("inPicture(0)", x.inPicture(0), 14);
        });
        s.promise(51, "Saves the state in a slot, in place of what was saved there.", () -> {
            CaptionAlbum x = album();
            x.save(0);
            x.save(1);
            x.retouch(0, 0, true);
            x.save(0);
            x.uncrop(0);
            Due.is("the new one", x.restore(0), 7);
            Due.is("frame", Due.frame(x, 0), "1 1 95 70");
            Due.is("the other slot", x.restore(1), 8);
            x.flip(2);
            x.save(0);
            Due.is("a save is no change", x.undoable(), 1);
        });
        s.promise(51, "Returns the number of people in all pictures together.", () -> {
            Due.is("nobody", Due.album("album gap 1;photo 1 1").save(0), 0);
            CaptionAlbum x = Due.album(ALBUM);
            Due.is("all", x.save(0), 8);
            x.crop(0, 0, 0, 40, 79);
            x.retouch(1, 0, true);
            Due.is("those in the pictures", x.save(0), 5);
            x.addPerson(2, 8, 8);
            Due.is("one more", x.save(1), 6);
            StringBuilder most = new StringBuilder("album gap 1" + ";photo 9 9".repeat(5));
            for (int photo = 0; photo < 5; photo++) {
                most.append((";person " + photo + " 1 1").repeat(12));
            }
            Due.is("sixty", Due.album(most.toString()).save(1), 60);
        });
    }

    private static void restore(Sentences s) {
        s.promise(52, "`slot`: 0 or 1", () -> {
            CaptionAlbum x = album();
            x.save(1);
            Due.state("restore(0)", () -> x.restore(0));
            Due.is("restore(1)", x.restore(1), 8);
            x.save(0);
            Due.is("restore(0), saved", x.restore(0), 8);
        });
        s.promise(52, "Restores what was saved in a slot; it stays saved. Nothing can be undone afterwards.",
                () -> {
            for (int kind = 0; kind < CHANGES.length; kind++) {
                CaptionAlbum x = album();
                String saved = Due.everything(x).replace("3 undoable", "0 undoable");
                x.save(1);
                for (int turn = 0; turn < 2; turn++) {
                    change(x, kind);
                    Due.is("restore(1)", x.restore(1), 8);
                    Due.is(CHANGES[kind] + " restored", Due.everything(x), saved);
                    Due.state("undo()", () -> x.undo());
                }
            }
        });
        s.promise(52, "Returns the number of people in all pictures together then.", () -> {
            CaptionAlbum x = Due.album(ALBUM);
            x.crop(0, 0, 0, 0, 0);
            x.save(0);
            x.uncrop(0);
            x.retouch(1, 3, true);
            x.save(1);
            x.addPerson(2, 1, 1);
            Due.is("restore(0)", x.restore(0), 4);
            Due.is("restore(1)", x.restore(1), 7);
            CaptionAlbum y = Due.album("album gap 1;photo 1 1");
            y.save(0);
            Due.is("nobody", y.restore(0), 0);
        });
    }

    private static void refused(Sentences s) {
        int[] wrong = {-1, 2, 5, Integer.MIN_VALUE, Integer.MAX_VALUE};
        s.promise(51, "Throws `IndexOutOfBoundsException` if there is no such slot", () -> {
            CaptionAlbum x = Due.album(ALBUM);
            for (int slot : wrong) {
                Due.index("save(slot)", () -> x.save(slot));
            }
            Due.state("nothing was saved", () -> x.restore(0));
            Due.state("nothing was saved", () -> x.restore(1));
        });
        s.promise(51, "Throws `IllegalStateException` if there is no album", () -> {
            CaptionAlbum x = new CaptionAlbum();
            int[] any = {0, 1, 2, -1};
            for (int slot : any) {
                Due.state("save(slot)", () -> x.save(slot));
            }
        });
        s.promise(52, "Throws `IndexOutOfBoundsException` if there is no such slot", () -> {
            CaptionAlbum none = new CaptionAlbum();
            CaptionAlbum x = album();
            x.save(0);
            x.save(1);
            for (int slot : wrong) {
                Due.index("restore(slot), no album", () -> none.restore(slot));
                Due.index("restore(slot)", () -> x.restore(slot));
            }
            Due.is("undoable()", x.undoable(), 3);
        });
        s.promise(52, "Throws `IllegalStateException` if nothing is saved there", () -> {
            CaptionAlbum none = new CaptionAlbum();
            CaptionAlbum x = album();
            for (int slot = 0; slot < 2; slot++) {
                int asked = slot;
                Due.state("no album", () -> none.restore(asked));
                Due.state("nothing saved", () -> x.restore(asked));
            }
            x.save(0);
            Due.state("only the other", () -> x.restore(1));
            x.save(1);
            Due.load(x, ALBUM);
            Due.state("restore(0) after load", () -> x.restore(0));
            Due.state("restore(1) after load", () -> x.restore(1));
        });
    }

    private static void state(Sentences s) {
        s.promise(52, "it stays saved.", () -> {
            CaptionAlbum x = album();
            x.save(0);
            x.restore(0);
            for (int turn = 0; turn < 3; turn++) {
                x.giveName(0, turn, turn);
                x.flip(0);
                x.crop(1, turn, 0, 5, 5);
                Due.is("restore(0)", x.restore(0), 8);
                Due.is("names", Due.namesOf(x, 0), "- - - -");
                Due.is("frame", Due.frame(x, 1), "0 0 49 49");
            }
        });
        s.promise(49, "Undoes the latest change", () -> {
            CaptionAlbum x = album();
            x.save(0);
            x.flip(0);
            x.undo();
            Due.is("after undo the slot is as it was", x.restore(0), 8);
            x.retouch(0, 0, true);
            x.save(0);
            x.undo();
            Due.is("undo() takes no save back", x.restore(0), 7);
        });
    }

    private static void longRun(Sentences s) {
        s.promise(50, "Returns the number of changes that can be undone", () -> {
            // With these changes the object is used for nearly 512 calls.
            CaptionAlbum x = Due.album(ALBUM);
            for (int i = 0; i < 470; i++) {
                x.giveName(0, i % 4, i % 3);
            }
            Due.is("undoable()", x.undoable(), 6);
            Due.is("names", Due.namesOf(x, 0), "0 1 - 2");
            for (int left = 5; left >= 0; left--) {
                Due.is("undo()", x.undo(), left);
            }
            Due.is("names undone", Due.namesOf(x, 0), namesAfter(464));
        });
    }

    private static String namesAfter(int changes) {
        CaptionAlbum x = Due.album(ALBUM);
        for (int i = 0; i < changes; i++) {
            x.giveName(0, i % 4, i % 3);
        }
        return Due.namesOf(x, 0);
    }
}
